/-! contracts out of the words (model-d), laid by wip/p4/y/gen5.py -/
set_option linter.unusedVariables false
theorem dX12_argument_0 : decode cX12_argument 0 = .ok (.aload_n 0, 1) := by decide +kernel
theorem dX12_argument_1 : decode cX12_argument 1 = .ok (.invokevirtual 250, 3) := by decide +kernel
theorem dX12_argument_4 : decode cX12_argument 4 = .ok (.aload_n 0, 1) := by decide +kernel
theorem dX12_argument_5 : decode cX12_argument 5 = .ok (.aload_n 0, 1) := by decide +kernel
theorem dX12_argument_6 : decode cX12_argument 6 = .ok (.getfield 244, 3) := by decide +kernel
theorem dX12_argument_9 : decode cX12_argument 9 = .ok (.invokevirtual 247, 3) := by decide +kernel
theorem dX12_argument_12 : decode cX12_argument 12 = .ok (.istore_n 3, 1) := by decide +kernel
theorem dX12_argument_13 : decode cX12_argument 13 = .ok (.iload_n 3, 1) := by decide +kernel
theorem dX12_argument_14 : decode cX12_argument 14 = .ok (.bipush 65, 2) := by decide +kernel
theorem dX12_argument_16 : decode cX12_argument 16 = .ok (.if_icmp .lt 38, 3) := by decide +kernel
theorem dX12_argument_19 : decode cX12_argument 19 = .ok (.iload_n 3, 1) := by decide +kernel
theorem dX12_argument_20 : decode cX12_argument 20 = .ok (.bipush 72, 2) := by decide +kernel
theorem dX12_argument_22 : decode cX12_argument 22 = .ok (.if_icmp .gt 32, 3) := by decide +kernel
theorem dX12_argument_25 : decode cX12_argument 25 = .ok (.aload_n 0, 1) := by decide +kernel
theorem dX12_argument_26 : decode cX12_argument 26 = .ok (.getfield 109, 3) := by decide +kernel
theorem dX12_argument_29 : decode cX12_argument 29 = .ok (.iload_n 1, 1) := by decide +kernel
theorem dX12_argument_30 : decode cX12_argument 30 = .ok (.iconst 1, 1) := by decide +kernel
theorem dX12_argument_31 : decode cX12_argument 31 = .ok (.iastore, 1) := by decide +kernel
theorem dX12_argument_32 : decode cX12_argument 32 = .ok (.aload_n 0, 1) := by decide +kernel
theorem dX12_argument_33 : decode cX12_argument 33 = .ok (.getfield 112, 3) := by decide +kernel
theorem dX12_argument_36 : decode cX12_argument 36 = .ok (.iload_n 1, 1) := by decide +kernel
theorem dX12_argument_37 : decode cX12_argument 37 = .ok (.iload_n 3, 1) := by decide +kernel
theorem dX12_argument_38 : decode cX12_argument 38 = .ok (.bipush 65, 2) := by decide +kernel
theorem dX12_argument_40 : decode cX12_argument 40 = .ok (.isub, 1) := by decide +kernel
theorem dX12_argument_41 : decode cX12_argument 41 = .ok (.iastore, 1) := by decide +kernel
theorem dX12_argument_42 : decode cX12_argument 42 = .ok (.aload_n 0, 1) := by decide +kernel
theorem dX12_argument_43 : decode cX12_argument 43 = .ok (.dup, 1) := by decide +kernel
theorem dX12_argument_44 : decode cX12_argument 44 = .ok (.getfield 244, 3) := by decide +kernel
theorem dX12_argument_47 : decode cX12_argument 47 = .ok (.iconst 1, 1) := by decide +kernel
theorem dX12_argument_48 : decode cX12_argument 48 = .ok (.iadd, 1) := by decide +kernel
theorem dX12_argument_49 : decode cX12_argument 49 = .ok (.putfield 244, 3) := by decide +kernel
theorem dX12_argument_52 : decode cX12_argument 52 = .ok (.iconst 1, 1) := by decide +kernel
theorem dX12_argument_53 : decode cX12_argument 53 = .ok (.ireturn, 1) := by decide +kernel
theorem dX12_argument_54 : decode cX12_argument 54 = .ok (.iload_n 2, 1) := by decide +kernel
theorem dX12_argument_55 : decode cX12_argument 55 = .ok (.ifCond .eq 35, 3) := by decide +kernel
theorem dX12_argument_58 : decode cX12_argument 58 = .ok (.iload_n 3, 1) := by decide +kernel
theorem dX12_argument_59 : decode cX12_argument 59 = .ok (.bipush 95, 2) := by decide +kernel
theorem dX12_argument_61 : decode cX12_argument 61 = .ok (.if_icmp .ne 29, 3) := by decide +kernel
theorem dX12_argument_64 : decode cX12_argument 64 = .ok (.aload_n 0, 1) := by decide +kernel
theorem dX12_argument_65 : decode cX12_argument 65 = .ok (.getfield 109, 3) := by decide +kernel
theorem dX12_argument_68 : decode cX12_argument 68 = .ok (.iload_n 1, 1) := by decide +kernel
theorem dX12_argument_69 : decode cX12_argument 69 = .ok (.iconst 2, 1) := by decide +kernel
theorem dX12_argument_70 : decode cX12_argument 70 = .ok (.iastore, 1) := by decide +kernel
theorem dX12_argument_71 : decode cX12_argument 71 = .ok (.aload_n 0, 1) := by decide +kernel
theorem dX12_argument_72 : decode cX12_argument 72 = .ok (.getfield 112, 3) := by decide +kernel
theorem dX12_argument_75 : decode cX12_argument 75 = .ok (.iload_n 1, 1) := by decide +kernel
theorem dX12_argument_76 : decode cX12_argument 76 = .ok (.iconst 0, 1) := by decide +kernel
theorem dX12_argument_77 : decode cX12_argument 77 = .ok (.iastore, 1) := by decide +kernel
theorem dX12_argument_78 : decode cX12_argument 78 = .ok (.aload_n 0, 1) := by decide +kernel
theorem dX12_argument_79 : decode cX12_argument 79 = .ok (.dup, 1) := by decide +kernel
theorem dX12_argument_80 : decode cX12_argument 80 = .ok (.getfield 244, 3) := by decide +kernel
theorem dX12_argument_83 : decode cX12_argument 83 = .ok (.iconst 1, 1) := by decide +kernel
theorem dX12_argument_84 : decode cX12_argument 84 = .ok (.iadd, 1) := by decide +kernel
theorem dX12_argument_85 : decode cX12_argument 85 = .ok (.putfield 244, 3) := by decide +kernel
theorem dX12_argument_88 : decode cX12_argument 88 = .ok (.iconst 1, 1) := by decide +kernel
theorem dX12_argument_89 : decode cX12_argument 89 = .ok (.ireturn, 1) := by decide +kernel
theorem dX12_argument_90 : decode cX12_argument 90 = .ok (.iload_n 3, 1) := by decide +kernel
theorem dX12_argument_91 : decode cX12_argument 91 = .ok (.bipush 45, 2) := by decide +kernel
theorem dX12_argument_93 : decode cX12_argument 93 = .ok (.if_icmp .eq 11, 3) := by decide +kernel
theorem dX12_argument_96 : decode cX12_argument 96 = .ok (.aload_n 0, 1) := by decide +kernel
theorem dX12_argument_97 : decode cX12_argument 97 = .ok (.iload_n 3, 1) := by decide +kernel
theorem dX12_argument_98 : decode cX12_argument 98 = .ok (.invokevirtual 253, 3) := by decide +kernel
theorem dX12_argument_101 : decode cX12_argument 101 = .ok (.ifCond .eq 10, 3) := by decide +kernel
theorem dX12_argument_104 : decode cX12_argument 104 = .ok (.aload_n 0, 1) := by decide +kernel
theorem dX12_argument_105 : decode cX12_argument 105 = .ok (.invokevirtual 262, 3) := by decide +kernel
theorem dX12_argument_108 : decode cX12_argument 108 = .ok (.ifCond .ne 5, 3) := by decide +kernel
theorem dX12_argument_111 : decode cX12_argument 111 = .ok (.iconst 0, 1) := by decide +kernel
theorem dX12_argument_112 : decode cX12_argument 112 = .ok (.ireturn, 1) := by decide +kernel
theorem dX12_argument_113 : decode cX12_argument 113 = .ok (.aload_n 0, 1) := by decide +kernel
theorem dX12_argument_114 : decode cX12_argument 114 = .ok (.getfield 109, 3) := by decide +kernel
theorem dX12_argument_117 : decode cX12_argument 117 = .ok (.iload_n 1, 1) := by decide +kernel
theorem dX12_argument_118 : decode cX12_argument 118 = .ok (.iconst 0, 1) := by decide +kernel
theorem dX12_argument_119 : decode cX12_argument 119 = .ok (.iastore, 1) := by decide +kernel
theorem dX12_argument_120 : decode cX12_argument 120 = .ok (.aload_n 0, 1) := by decide +kernel
theorem dX12_argument_121 : decode cX12_argument 121 = .ok (.getfield 112, 3) := by decide +kernel
theorem dX12_argument_124 : decode cX12_argument 124 = .ok (.iload_n 1, 1) := by decide +kernel
theorem dX12_argument_125 : decode cX12_argument 125 = .ok (.aload_n 0, 1) := by decide +kernel
theorem dX12_argument_126 : decode cX12_argument 126 = .ok (.getfield 259, 3) := by decide +kernel
theorem dX12_argument_129 : decode cX12_argument 129 = .ok (.iastore, 1) := by decide +kernel
theorem dX12_argument_130 : decode cX12_argument 130 = .ok (.iconst 1, 1) := by decide +kernel
theorem dX12_argument_131 : decode cX12_argument 131 = .ok (.ireturn, 1) := by decide +kernel
theorem i9wsX12_argument_0 : ∀ w ∈ wsX12_argument_r1, w ∈ wsX12_argument := fun _ h => (List.mem_cons_of_mem _ (List.mem_append_left _ (List.mem_append_left _ h)))
theorem i9wsX12_argument_2 : ∀ w ∈ wsX120, w ∈ wsX12_argument := fun _ h => (List.mem_cons_of_mem _ (List.mem_append_right _ h))
set_option maxRecDepth 20000 in
theorem ggX12_argument_X12_blanks : GoodIn wsX12_argument wsX12_blanks := (gin_c (mem_at i9wsX12_argument_0 8 rfl) rfl (goodIn_app (gin_c (mem_at i9wsX12_argument_0 0 rfl) rfl (gin_c (mem_at i9wsX12_argument_0 9 rfl) rfl (gin_c (mem_at i9wsX12_argument_0 10 rfl) rfl (gin_c (mem_at i9wsX12_argument_0 11 rfl) rfl (gin_c (mem_at i9wsX12_argument_0 7 rfl) rfl (gin_c (mem_at i9wsX12_argument_0 12 rfl) rfl (gin_c (mem_at i9wsX12_argument_0 13 rfl) rfl (gin_c (mem_at i9wsX12_argument_0 14 rfl) rfl gin_n)))))))) (goodIn_sub i9wsX12_argument_2 g9_16)))
set_option maxRecDepth 20000 in
theorem gX12_argument_X12_blanks : GoodIn wsX12_argument (wsV RX12 250 RX12 yX12_blanks wsX12_blanks) := goodIn_app (gin_c (mem_at i9wsX12_argument_0 4 rfl) rfl (gin_c (mem_at i9wsX12_argument_0 5 rfl) rfl (gin_c (mem_at i9wsX12_argument_0 6 rfl) rfl (gin_c (mem_at i9wsX12_argument_0 7 rfl) rfl gin_n)))) ggX12_argument_X12_blanks
set_option maxRecDepth 20000 in
theorem ggX12_argument_X12_byteAt : GoodIn wsX12_argument wsX12_byteAt := (gin_c (mem_at i9wsX12_argument_0 12 rfl) rfl (goodIn_app (gin_c (mem_at i9wsX12_argument_0 13 rfl) rfl (gin_c (mem_at i9wsX12_argument_0 14 rfl) rfl gin_n)) (goodIn_sub i9wsX12_argument_2 g9_16)))
set_option maxRecDepth 20000 in
theorem gX12_argument_X12_byteAt : GoodIn wsX12_argument (wsV RX12 247 RX12 yX12_byteAt wsX12_byteAt) := goodIn_app (gin_c (mem_at i9wsX12_argument_0 9 rfl) rfl (gin_c (mem_at i9wsX12_argument_0 10 rfl) rfl (gin_c (mem_at i9wsX12_argument_0 11 rfl) rfl (gin_c (mem_at i9wsX12_argument_0 7 rfl) rfl gin_n)))) ggX12_argument_X12_byteAt
set_option maxRecDepth 20000 in
theorem ggX12_argument_X12_isDigit : GoodIn wsX12_argument wsX12_isDigit := (gin_c (mem_at i9wsX12_argument_0 18 rfl) rfl gin_n)
set_option maxRecDepth 20000 in
theorem gX12_argument_X12_isDigit : GoodIn wsX12_argument (wsV RX12 253 RX12 yX12_isDigit wsX12_isDigit) := goodIn_app (gin_c (mem_at i9wsX12_argument_0 15 rfl) rfl (gin_c (mem_at i9wsX12_argument_0 16 rfl) rfl (gin_c (mem_at i9wsX12_argument_0 17 rfl) rfl (gin_c (mem_at i9wsX12_argument_0 7 rfl) rfl gin_n)))) ggX12_argument_X12_isDigit
theorem i9wsX12_argument_1 : ∀ w ∈ wsX12_argument_r2, w ∈ wsX12_argument := fun _ h => (List.mem_cons_of_mem _ (List.mem_append_left _ (List.mem_append_right _ h)))
set_option maxRecDepth 20000 in
theorem ggX12_argument_X12_digits0 : GoodIn wsX12_argument wsX12_digits0 := (gin_c (mem_at i9wsX12_argument_0 22 rfl) rfl (goodIn_app (gin_c (mem_at i9wsX12_argument_0 0 rfl) rfl (gin_c (mem_at i9wsX12_argument_0 3 rfl) rfl (gin_c (mem_at i9wsX12_argument_0 9 rfl) rfl (gin_c (mem_at i9wsX12_argument_0 10 rfl) rfl (gin_c (mem_at i9wsX12_argument_0 11 rfl) rfl (gin_c (mem_at i9wsX12_argument_0 7 rfl) rfl (gin_c (mem_at i9wsX12_argument_0 12 rfl) rfl (gin_c (mem_at i9wsX12_argument_0 13 rfl) rfl (gin_c (mem_at i9wsX12_argument_0 14 rfl) rfl (gin_c (mem_at i9wsX12_argument_0 23 rfl) rfl (gin_c (mem_at i9wsX12_argument_1 0 rfl) rfl (gin_c (mem_at i9wsX12_argument_1 1 rfl) rfl (gin_c (mem_at i9wsX12_argument_1 2 rfl) rfl (gin_c (mem_at i9wsX12_argument_0 15 rfl) rfl (gin_c (mem_at i9wsX12_argument_0 16 rfl) rfl (gin_c (mem_at i9wsX12_argument_0 17 rfl) rfl (gin_c (mem_at i9wsX12_argument_0 18 rfl) rfl gin_n))))))))))))))))) (goodIn_sub i9wsX12_argument_2 g9_16)))
set_option maxRecDepth 20000 in
theorem gX12_argument_X12_digits0 : GoodIn wsX12_argument (wsV RX12 262 RX12 yX12_digits0 wsX12_digits0) := goodIn_app (gin_c (mem_at i9wsX12_argument_0 19 rfl) rfl (gin_c (mem_at i9wsX12_argument_0 20 rfl) rfl (gin_c (mem_at i9wsX12_argument_0 21 rfl) rfl (gin_c (mem_at i9wsX12_argument_0 7 rfl) rfl gin_n)))) ggX12_argument_X12_digits0
set_option maxHeartbeats 4000000 in
set_option maxRecDepth 100000 in
theorem T_X12_argument (l : Launch) (hl : l.stackTraces = false) (D : va_G) (cA : Nat → ClassId) {l0 : Option Nat} {l1 : Int32} {l2 : Int32} {x : HS} {Q : Int32 → HS → Prop} {X : String → HS → Prop} (h : w_X12_argument l0 l1 l2 x Q X) : YI l yX12_argument wsX12_argument 3 68 D cA [.q l0, .i l1, .i l2] x Q X := by
  refine YI.of (cc := cX12_argument) (maxL := 4) (ret := (some .boolean)) hl (by decide) rfl rfl (fun g B fr => ?_)
  have o := B.o
  have hb := B.hb
  have hts := B.hts
  have hown : g.s.vm.findClass RX12 = some g.m.cls := B.hown
  have in12 : ∀ w ∈ u_ws RX12 TX12 57, w ∈ wsX12_argument := fun w h => (List.mem_cons_of_mem _ (List.mem_append_right _ h))
  unfold w_X12_argument at h
  show KW g 4 0 [(0, .q l0), (1, .i l1), (2, .i l2)] [] x
  refine k_aload_n o hb dX12_argument_0 rfl 0 rfl ?_
  refine k_run_v o (fun _ _ q => q) (k_runV (ci := 12) (rc := (RX12, TX12, 57)) o hb B.hml hown hts rfl (by decide) (T_X12_blanks g.l o.hl g.D g.cA h.2) (cwV 0 hts gX12_argument_X12_blanks rfl rfl rfl (by decide +kernel) ⟨yle B.hR1 rfl, yle B.hR2 rfl⟩) h.1 rfl rfl (Nat.le_of_ble_eq_true rfl) dX12_argument_1) (fun x1 h => ?_)
  refine k_aload_n o hb dX12_argument_4 rfl 0 rfl ?_
  refine k_aload_n o hb dX12_argument_5 rfl 0 rfl ?_
  refine k_getI (C := RX12) (T := TX12) (N := 57) o hb hts in12 hown rfl (by decide) 41 (by decide) rfl (hts (.fieldLink RX12 244 "FactKeeperModel" "at" "I") (by decide +kernel)) (fun _ h9 => h9) dX12_argument_6 h (fun v3 h => ?_)
  refine k_run_i o (fun _ _ q => q) (k_runV (ci := 12) (rc := (RX12, TX12, 57)) o hb B.hml hown hts rfl (by decide) (T_X12_byteAt g.l o.hl g.D g.cA h.2) (cwV 1 hts gX12_argument_X12_byteAt rfl rfl rfl (by decide +kernel) ⟨yle B.hR1 rfl, yle B.hR2 rfl⟩) h.1 rfl rfl (Nat.le_of_ble_eq_true rfl) dX12_argument_9) (fun v5 x4 h => ?_)
  refine k_istore_n o hb dX12_argument_12 rfl rfl ?_
  refine k_iload_n o hb dX12_argument_13 rfl 0 rfl ?_
  refine k_bipush (v := 65) o hb dX12_argument_14 (by decide) ?_
  refine wJoin_elim (M := fun K => ∀  (x7 : HS), K  x7 → KW g 4 54 [(0, .q l0), (1, .i l1), (2, .i l2), (3, .i v5)] [] x7) h ?_ (fun j6 hj6 h => ?_)
  · skip
    intro  x7 h
    refine k_iload_n o hb dX12_argument_54 rfl 2 rfl ?_
    refine wJoin_elim (M := fun K => ∀  (x9 : HS), K  x9 → KW g 4 90 [(0, .q l0), (1, .i l1), (3, .i v5)] [] x9) h ?_ (fun j8 hj8 h => ?_)
    · skip
      intro  x9 h
      refine k_iload_n o hb dX12_argument_90 rfl 2 rfl ?_
      refine k_bipush (v := 45) o hb dX12_argument_91 (by decide) ?_
      refine wJoin_elim (M := fun K => ∀  (x11 : HS), K  x11 → KW g 4 111 [] [] x11) h ?_ (fun j10 hj10 h => ?_)
      · skip
        intro  x11 h
        refine k_iconst (v := 0) o hb dX12_argument_111 (by decide) ?_
        exact k_zret o hb B.hr fr dX12_argument_112 h
      · skip
        refine wJoin_elim (M := fun K => ∀  (x13 : HS), K  x13 → KW g 4 104 [(0, .q l0), (1, .i l1)] [] x13) h ?_ (fun j12 hj12 h => ?_)
        · skip
          intro  x13 h
          refine k_aload_n o hb dX12_argument_104 rfl 0 rfl ?_
          refine k_run_i o (fun _ _ q => q) (k_runV (ci := 12) (rc := (RX12, TX12, 57)) o hb B.hml hown hts rfl (by decide) (T_X12_digits0 g.l o.hl g.D g.cA h.2) (cwV 0 hts gX12_argument_X12_digits0 rfl rfl rfl (by decide +kernel) ⟨yle B.hR1 rfl, yle B.hR2 rfl⟩) h.1 rfl rfl (Nat.le_of_ble_eq_true rfl) dX12_argument_105) (fun v15 x14 h => ?_)
          refine k_if_ne (tgt := 113) o hb dX12_argument_108 (by decide) h (fun h => ?_) (fun h => ?_)
          · skip
            exact KW.sub [] rfl (hj10 x14 h)
          · skip
            refine k_aload_n o hb dX12_argument_113 rfl 0 rfl ?_
            refine k_getF (C := RX12) (T := TX12) (N := 57) o hb hts in12 hown rfl (by decide) 46 (by decide) rfl (hts (.fieldLink RX12 109 "FactKeeperModel" "sort" "[I") (by decide +kernel)) (fun _ h9 => h9) dX12_argument_114 h (fun v16 h => ?_)
            refine k_iload_n o hb dX12_argument_117 rfl 1 rfl ?_
            refine k_iconst (v := 0) o hb dX12_argument_118 (by decide) ?_
            refine k_iast o hb dX12_argument_119 h (fun x17 h => ?_)
            refine k_aload_n o hb dX12_argument_120 rfl 0 rfl ?_
            refine k_getF (C := RX12) (T := TX12) (N := 57) o hb hts in12 hown rfl (by decide) 47 (by decide) rfl (hts (.fieldLink RX12 112 "FactKeeperModel" "argument" "[I") (by decide +kernel)) (fun _ h9 => h9) dX12_argument_121 h (fun v18 h => ?_)
            refine k_iload_n o hb dX12_argument_124 rfl 1 rfl ?_
            refine k_aload_n o hb dX12_argument_125 rfl 0 rfl ?_
            refine k_getI (C := RX12) (T := TX12) (N := 57) o hb hts in12 hown rfl (by decide) 43 (by decide) rfl (hts (.fieldLink RX12 259 "FactKeeperModel" "readNumber" "I") (by decide +kernel)) (fun _ h9 => h9) dX12_argument_126 h (fun v19 h => ?_)
            refine k_iast o hb dX12_argument_129 h (fun x20 h => ?_)
            refine k_iconst (v := 1) o hb dX12_argument_130 (by decide) ?_
            exact k_zret o hb B.hr fr dX12_argument_131 h
        · skip
          refine k_icmp_eq (tgt := 104) o hb dX12_argument_93 (by decide) h (fun h => ?_) (fun h => ?_)
          · skip
            exact KW.sub [0, 1] rfl (hj12 x9 h)
          · skip
            refine k_aload_n o hb dX12_argument_96 rfl 0 rfl ?_
            refine k_iload_n o hb dX12_argument_97 rfl 2 rfl ?_
            refine k_run_i o (fun _ _ q => q) (k_runV (ci := 12) (rc := (RX12, TX12, 57)) o hb B.hml hown hts rfl (by decide) (T_X12_isDigit g.l o.hl g.D g.cA h.2) (cwV 1 hts gX12_argument_X12_isDigit rfl rfl rfl (by decide +kernel) ⟨yle B.hR1 rfl, yle B.hR2 rfl⟩) h.1 rfl rfl (Nat.le_of_ble_eq_true rfl) dX12_argument_98) (fun v22 x21 h => ?_)
            refine k_if_eq (tgt := 111) o hb dX12_argument_101 (by decide) h (fun h => ?_) (fun h => ?_)
            · skip
              exact KW.sub [] rfl (hj10 x21 h)
            · skip
              exact KW.sub [0, 1] rfl (hj12 x21 h)
    · skip
      refine k_if_eq (tgt := 90) o hb dX12_argument_55 (by decide) h (fun h => ?_) (fun h => ?_)
      · skip
        exact KW.sub [0, 1, 3] rfl (hj8 x7 h)
      · skip
        refine k_iload_n o hb dX12_argument_58 rfl 3 rfl ?_
        refine k_bipush (v := 95) o hb dX12_argument_59 (by decide) ?_
        refine k_icmp_ne (tgt := 90) o hb dX12_argument_61 (by decide) h (fun h => ?_) (fun h => ?_)
        · skip
          refine k_aload_n o hb dX12_argument_64 rfl 0 rfl ?_
          refine k_getF (C := RX12) (T := TX12) (N := 57) o hb hts in12 hown rfl (by decide) 46 (by decide) rfl (hts (.fieldLink RX12 109 "FactKeeperModel" "sort" "[I") (by decide +kernel)) (fun _ h9 => h9) dX12_argument_65 h (fun v23 h => ?_)
          refine k_iload_n o hb dX12_argument_68 rfl 1 rfl ?_
          refine k_iconst (v := 2) o hb dX12_argument_69 (by decide) ?_
          refine k_iast o hb dX12_argument_70 h (fun x24 h => ?_)
          refine k_aload_n o hb dX12_argument_71 rfl 0 rfl ?_
          refine k_getF (C := RX12) (T := TX12) (N := 57) o hb hts in12 hown rfl (by decide) 47 (by decide) rfl (hts (.fieldLink RX12 112 "FactKeeperModel" "argument" "[I") (by decide +kernel)) (fun _ h9 => h9) dX12_argument_72 h (fun v25 h => ?_)
          refine k_iload_n o hb dX12_argument_75 rfl 1 rfl ?_
          refine k_iconst (v := 0) o hb dX12_argument_76 (by decide) ?_
          refine k_iast o hb dX12_argument_77 h (fun x26 h => ?_)
          refine k_aload_n o hb dX12_argument_78 rfl 0 rfl ?_
          refine k_dup o hb dX12_argument_79 ?_
          refine k_getI (C := RX12) (T := TX12) (N := 57) o hb hts in12 hown rfl (by decide) 41 (by decide) rfl (hts (.fieldLink RX12 244 "FactKeeperModel" "at" "I") (by decide +kernel)) (fun _ h9 => h9) dX12_argument_80 h (fun v27 h => ?_)
          refine k_iconst (v := 1) o hb dX12_argument_83 (by decide) ?_
          refine k_iadd o hb dX12_argument_84 ?_
          refine k_putI (C := RX12) (T := TX12) (N := 57) (ty := .int) o hb hts in12 tyX12 tyX12_ok nmX12 hown rfl (by decide) 41 (by decide) rfl (hts (.fieldLink RX12 244 "FactKeeperModel" "at" "I") (by decide +kernel)) (fun _ h9 => h9) rfl (by decide +kernel) (fun _ => rfl) (fun _ => rfl) dX12_argument_85 h (fun x28 h => ?_)
          refine k_iconst (v := 1) o hb dX12_argument_88 (by decide) ?_
          exact k_zret o hb B.hr fr dX12_argument_89 h
        · skip
          exact KW.sub [0, 1, 3] rfl (hj8 x7 h)
  · skip
    refine k_icmp_lt (tgt := 54) o hb dX12_argument_16 (by decide) h (fun h => ?_) (fun h => ?_)
    · skip
      exact KW.sub [1, 2, 3, 0] rfl (hj6 x4 h)
    · skip
      refine k_iload_n o hb dX12_argument_19 rfl 0 rfl ?_
      refine k_bipush (v := 72) o hb dX12_argument_20 (by decide) ?_
      refine k_icmp_gt (tgt := 54) o hb dX12_argument_22 (by decide) h (fun h => ?_) (fun h => ?_)
      · skip
        exact KW.sub [1, 2, 3, 0] rfl (hj6 x4 h)
      · skip
        refine k_aload_n o hb dX12_argument_25 rfl 1 rfl ?_
        refine k_getF (C := RX12) (T := TX12) (N := 57) o hb hts in12 hown rfl (by decide) 46 (by decide) rfl (hts (.fieldLink RX12 109 "FactKeeperModel" "sort" "[I") (by decide +kernel)) (fun _ h9 => h9) dX12_argument_26 h (fun v29 h => ?_)
        refine k_iload_n o hb dX12_argument_29 rfl 2 rfl ?_
        refine k_iconst (v := 1) o hb dX12_argument_30 (by decide) ?_
        refine k_iast o hb dX12_argument_31 h (fun x30 h => ?_)
        refine k_aload_n o hb dX12_argument_32 rfl 1 rfl ?_
        refine k_getF (C := RX12) (T := TX12) (N := 57) o hb hts in12 hown rfl (by decide) 47 (by decide) rfl (hts (.fieldLink RX12 112 "FactKeeperModel" "argument" "[I") (by decide +kernel)) (fun _ h9 => h9) dX12_argument_33 h (fun v31 h => ?_)
        refine k_iload_n o hb dX12_argument_36 rfl 2 rfl ?_
        refine k_iload_n o hb dX12_argument_37 rfl 0 rfl ?_
        refine k_bipush (v := 65) o hb dX12_argument_38 (by decide) ?_
        refine k_isub o hb dX12_argument_40 ?_
        refine k_iast o hb dX12_argument_41 h (fun x32 h => ?_)
        refine k_aload_n o hb dX12_argument_42 rfl 1 rfl ?_
        refine k_dup o hb dX12_argument_43 ?_
        refine k_getI (C := RX12) (T := TX12) (N := 57) o hb hts in12 hown rfl (by decide) 41 (by decide) rfl (hts (.fieldLink RX12 244 "FactKeeperModel" "at" "I") (by decide +kernel)) (fun _ h9 => h9) dX12_argument_44 h (fun v33 h => ?_)
        refine k_iconst (v := 1) o hb dX12_argument_47 (by decide) ?_
        refine k_iadd o hb dX12_argument_48 ?_
        refine k_putI (C := RX12) (T := TX12) (N := 57) (ty := .int) o hb hts in12 tyX12 tyX12_ok nmX12 hown rfl (by decide) 41 (by decide) rfl (hts (.fieldLink RX12 244 "FactKeeperModel" "at" "I") (by decide +kernel)) (fun _ h9 => h9) rfl (by decide +kernel) (fun _ => rfl) (fun _ => rfl) dX12_argument_49 h (fun x34 h => ?_)
        refine k_iconst (v := 1) o hb dX12_argument_52 (by decide) ?_
        exact k_zret o hb B.hr fr dX12_argument_53 h
theorem dX12_isKnown_0 : decode cX12_isKnown 0 = .ok (.aload_n 0, 1) := by decide +kernel
theorem dX12_isKnown_1 : decode cX12_isKnown 1 = .ok (.getfield 109, 3) := by decide +kernel
theorem dX12_isKnown_4 : decode cX12_isKnown 4 = .ok (.iload_n 2, 1) := by decide +kernel
theorem dX12_isKnown_5 : decode cX12_isKnown 5 = .ok (.iaload, 1) := by decide +kernel
theorem dX12_isKnown_6 : decode cX12_isKnown 6 = .ok (.iconst 1, 1) := by decide +kernel
theorem dX12_isKnown_7 : decode cX12_isKnown 7 = .ok (.if_icmp .ne 22, 3) := by decide +kernel
theorem dX12_isKnown_10 : decode cX12_isKnown 10 = .ok (.aload_n 0, 1) := by decide +kernel
theorem dX12_isKnown_11 : decode cX12_isKnown 11 = .ok (.getfield 115, 3) := by decide +kernel
theorem dX12_isKnown_14 : decode cX12_isKnown 14 = .ok (.iload_n 1, 1) := by decide +kernel
theorem dX12_isKnown_15 : decode cX12_isKnown 15 = .ok (.iaload, 1) := by decide +kernel
theorem dX12_isKnown_16 : decode cX12_isKnown 16 = .ok (.aload_n 0, 1) := by decide +kernel
theorem dX12_isKnown_17 : decode cX12_isKnown 17 = .ok (.getfield 112, 3) := by decide +kernel
theorem dX12_isKnown_20 : decode cX12_isKnown 20 = .ok (.iload_n 2, 1) := by decide +kernel
theorem dX12_isKnown_21 : decode cX12_isKnown 21 = .ok (.iaload, 1) := by decide +kernel
theorem dX12_isKnown_22 : decode cX12_isKnown 22 = .ok (.ishr, 1) := by decide +kernel
theorem dX12_isKnown_23 : decode cX12_isKnown 23 = .ok (.iconst 1, 1) := by decide +kernel
theorem dX12_isKnown_24 : decode cX12_isKnown 24 = .ok (.iand, 1) := by decide +kernel
theorem dX12_isKnown_25 : decode cX12_isKnown 25 = .ok (.iconst 1, 1) := by decide +kernel
theorem dX12_isKnown_26 : decode cX12_isKnown 26 = .ok (.if_icmp .ne 7, 3) := by decide +kernel
theorem dX12_isKnown_29 : decode cX12_isKnown 29 = .ok (.iconst 1, 1) := by decide +kernel
theorem dX12_isKnown_30 : decode cX12_isKnown 30 = .ok (.goto 4, 3) := by decide +kernel
theorem dX12_isKnown_33 : decode cX12_isKnown 33 = .ok (.iconst 0, 1) := by decide +kernel
theorem dX12_isKnown_34 : decode cX12_isKnown 34 = .ok (.ireturn, 1) := by decide +kernel
set_option maxHeartbeats 4000000 in
set_option maxRecDepth 100000 in
theorem T_X12_isKnown (l : Launch) (hl : l.stackTraces = false) (D : va_G) (cA : Nat → ClassId) {l0 : Option Nat} {l1 : Int32} {l2 : Int32} {x : HS} {Q : Int32 → HS → Prop} {X : String → HS → Prop} (h : w_X12_isKnown l0 l1 l2 x Q X) : YI l yX12_isKnown wsX12_isKnown 0 0 D cA [.q l0, .i l1, .i l2] x Q X := by
  refine YI.of (cc := cX12_isKnown) (maxL := 3) (ret := (some .boolean)) hl (by decide) rfl rfl (fun g B fr => ?_)
  have o := B.o
  have hb := B.hb
  have hts := B.hts
  have hown : g.s.vm.findClass RX12 = some g.m.cls := B.hown
  have in12 : ∀ w ∈ u_ws RX12 TX12 57, w ∈ wsX12_isKnown := fun w h => (List.mem_cons_of_mem _ (List.mem_append_right _ h))
  unfold w_X12_isKnown at h
  show KW g 3 0 [(0, .q l0), (1, .i l1), (2, .i l2)] [] x
  refine k_aload_n o hb dX12_isKnown_0 rfl 0 rfl ?_
  refine k_getF (C := RX12) (T := TX12) (N := 57) o hb hts in12 hown rfl (by decide) 46 (by decide) rfl (hts (.fieldLink RX12 109 "FactKeeperModel" "sort" "[I") (by decide +kernel)) (fun _ h9 => h9) dX12_isKnown_1 h (fun v1 h => ?_)
  refine k_iload_n o hb dX12_isKnown_4 rfl 2 rfl ?_
  refine k_iald o hb dX12_isKnown_5 h (fun v2 h => ?_)
  refine k_iconst (v := 1) o hb dX12_isKnown_6 (by decide) ?_
  refine wJoin_elim (M := fun K => ∀ (v5 : Int32) (x4 : HS), K v5 x4 → KW g 3 34 [] [.i v5] x4) h ?_ (fun j3 hj3 h => ?_)
  · skip
    intro v5 x4 h
    exact k_zret o hb B.hr fr dX12_isKnown_34 h
  · skip
    refine wJoin_elim (M := fun K => ∀  (x7 : HS), K  x7 → KW g 3 29 [] [] x7) h ?_ (fun j6 hj6 h => ?_)
    · skip
      intro  x7 h
      refine k_iconst (v := 1) o hb dX12_isKnown_29 (by decide) ?_
      refine k_goto (tgt := 34) o hb dX12_isKnown_30 (by decide) ?_
      exact KW.sub [] rfl (hj3 1 x7 h)
    · skip
      refine k_icmp_ne (tgt := 29) o hb dX12_isKnown_7 (by decide) h (fun h => ?_) (fun h => ?_)
      · skip
        refine k_aload_n o hb dX12_isKnown_10 rfl 0 rfl ?_
        refine k_getF (C := RX12) (T := TX12) (N := 57) o hb hts in12 hown rfl (by decide) 48 (by decide) rfl (hts (.fieldLink RX12 115 "FactKeeperModel" "known" "[I") (by decide +kernel)) (fun _ h9 => h9) dX12_isKnown_11 h (fun v8 h => ?_)
        refine k_iload_n o hb dX12_isKnown_14 rfl 1 rfl ?_
        refine k_iald o hb dX12_isKnown_15 h (fun v9 h => ?_)
        refine k_aload_n o hb dX12_isKnown_16 rfl 0 rfl ?_
        refine k_getF (C := RX12) (T := TX12) (N := 57) o hb hts in12 hown rfl (by decide) 47 (by decide) rfl (hts (.fieldLink RX12 112 "FactKeeperModel" "argument" "[I") (by decide +kernel)) (fun _ h9 => h9) dX12_isKnown_17 h (fun v10 h => ?_)
        refine k_iload_n o hb dX12_isKnown_20 rfl 2 rfl ?_
        refine k_iald o hb dX12_isKnown_21 h (fun v11 h => ?_)
        refine k_ishr o hb dX12_isKnown_22 ?_
        refine k_iconst (v := 1) o hb dX12_isKnown_23 (by decide) ?_
        refine k_iand o hb dX12_isKnown_24 ?_
        refine k_iconst (v := 1) o hb dX12_isKnown_25 (by decide) ?_
        refine k_icmp_ne (tgt := 33) o hb dX12_isKnown_26 (by decide) h (fun h => ?_) (fun h => ?_)
        · skip
          exact KW.sub [] rfl (hj6 x h)
        · skip
          refine k_iconst (v := 0) o hb dX12_isKnown_33 (by decide) ?_
          exact KW.sub [] rfl (hj3 0 x h)
      · skip
        exact KW.sub [] rfl (hj6 x h)
theorem dX12_wrong_0 : decode cX12_wrong 0 = .ok (.aload_n 0, 1) := by decide +kernel
theorem dX12_wrong_1 : decode cX12_wrong 1 = .ok (.iload_n 1, 1) := by decide +kernel
theorem dX12_wrong_2 : decode cX12_wrong 2 = .ok (.aload_n 0, 1) := by decide +kernel
theorem dX12_wrong_3 : decode cX12_wrong 3 = .ok (.getfield 241, 3) := by decide +kernel
theorem dX12_wrong_6 : decode cX12_wrong 6 = .ok (.if_icmp .ge 7, 3) := by decide +kernel
theorem dX12_wrong_9 : decode cX12_wrong 9 = .ok (.iload_n 1, 1) := by decide +kernel
theorem dX12_wrong_10 : decode cX12_wrong 10 = .ok (.goto 7, 3) := by decide +kernel
theorem dX12_wrong_13 : decode cX12_wrong 13 = .ok (.aload_n 0, 1) := by decide +kernel
theorem dX12_wrong_14 : decode cX12_wrong 14 = .ok (.getfield 241, 3) := by decide +kernel
theorem dX12_wrong_17 : decode cX12_wrong 17 = .ok (.putfield 100, 3) := by decide +kernel
theorem dX12_wrong_20 : decode cX12_wrong 20 = .ok (.iconst 0, 1) := by decide +kernel
theorem dX12_wrong_21 : decode cX12_wrong 21 = .ok (.ireturn, 1) := by decide +kernel
set_option maxHeartbeats 4000000 in
set_option maxRecDepth 100000 in
theorem T_X12_wrong (l : Launch) (hl : l.stackTraces = false) (D : va_G) (cA : Nat → ClassId) {l0 : Option Nat} {l1 : Int32} {x : HS} {Q : Int32 → HS → Prop} {X : String → HS → Prop} (h : w_X12_wrong l0 l1 x Q X) : YI l yX12_wrong wsX12_wrong 0 0 D cA [.q l0, .i l1] x Q X := by
  refine YI.of (cc := cX12_wrong) (maxL := 2) (ret := (some .boolean)) hl (by decide) rfl rfl (fun g B fr => ?_)
  have o := B.o
  have hb := B.hb
  have hts := B.hts
  have hown : g.s.vm.findClass RX12 = some g.m.cls := B.hown
  have in12 : ∀ w ∈ u_ws RX12 TX12 57, w ∈ wsX12_wrong := fun w h => (List.mem_cons_of_mem _ (List.mem_append_right _ h))
  unfold w_X12_wrong at h
  show KW g 2 0 [(0, .q l0), (1, .i l1)] [] x
  refine k_aload_n o hb dX12_wrong_0 rfl 0 rfl ?_
  refine k_iload_n o hb dX12_wrong_1 rfl 1 rfl ?_
  refine k_aload_n o hb dX12_wrong_2 rfl 0 rfl ?_
  refine k_getI (C := RX12) (T := TX12) (N := 57) o hb hts in12 hown rfl (by decide) 40 (by decide) rfl (hts (.fieldLink RX12 241 "FactKeeperModel" "length" "I") (by decide +kernel)) (fun _ h9 => h9) dX12_wrong_3 h (fun v1 h => ?_)
  refine wJoin_elim (M := fun K => ∀ (v4 : Int32) (x3 : HS), K v4 x3 → KW g 2 17 [] [.i v4, .q l0] x3) h ?_ (fun j2 hj2 h => ?_)
  · skip
    intro v4 x3 h
    refine k_putI (C := RX12) (T := TX12) (N := 57) (ty := .int) o hb hts in12 tyX12 tyX12_ok nmX12 hown rfl (by decide) 42 (by decide) rfl (hts (.fieldLink RX12 100 "FactKeeperModel" "broken" "I") (by decide +kernel)) (fun _ h9 => h9) rfl (by decide +kernel) (fun _ => rfl) (fun _ => rfl) dX12_wrong_17 h (fun x5 h => ?_)
    refine k_iconst (v := 0) o hb dX12_wrong_20 (by decide) ?_
    exact k_zret o hb B.hr fr dX12_wrong_21 h
  · skip
    refine k_icmp_ge (tgt := 13) o hb dX12_wrong_6 (by decide) h (fun h => ?_) (fun h => ?_)
    · skip
      refine k_aload_n o hb dX12_wrong_13 rfl 0 rfl ?_
      refine k_getI (C := RX12) (T := TX12) (N := 57) o hb hts in12 hown rfl (by decide) 40 (by decide) rfl (hts (.fieldLink RX12 241 "FactKeeperModel" "length" "I") (by decide +kernel)) (fun _ h9 => h9) dX12_wrong_14 h (fun v6 h => ?_)
      exact KW.sub [] rfl (hj2 v6 x h)
    · skip
      refine k_iload_n o hb dX12_wrong_9 rfl 1 rfl ?_
      refine k_goto (tgt := 17) o hb dX12_wrong_10 (by decide) ?_
      exact KW.sub [] rfl (hj2 l1 x h)
theorem dX12_tableGoal_0 : decode cX12_tableGoal 0 = .ok (.aload_n 0, 1) := by decide +kernel
theorem dX12_tableGoal_1 : decode cX12_tableGoal 1 = .ok (.getfield 244, 3) := by decide +kernel
theorem dX12_tableGoal_4 : decode cX12_tableGoal 4 = .ok (.istore_n 2, 1) := by decide +kernel
theorem dX12_tableGoal_5 : decode cX12_tableGoal 5 = .ok (.aload_n 0, 1) := by decide +kernel
theorem dX12_tableGoal_6 : decode cX12_tableGoal 6 = .ok (.dup, 1) := by decide +kernel
theorem dX12_tableGoal_7 : decode cX12_tableGoal 7 = .ok (.getfield 244, 3) := by decide +kernel
theorem dX12_tableGoal_10 : decode cX12_tableGoal 10 = .ok (.iconst 1, 1) := by decide +kernel
theorem dX12_tableGoal_11 : decode cX12_tableGoal 11 = .ok (.iadd, 1) := by decide +kernel
theorem dX12_tableGoal_12 : decode cX12_tableGoal 12 = .ok (.putfield 244, 3) := by decide +kernel
theorem dX12_tableGoal_15 : decode cX12_tableGoal 15 = .ok (.aload_n 0, 1) := by decide +kernel
theorem dX12_tableGoal_16 : decode cX12_tableGoal 16 = .ok (.aload_n 0, 1) := by decide +kernel
theorem dX12_tableGoal_17 : decode cX12_tableGoal 17 = .ok (.getfield 244, 3) := by decide +kernel
theorem dX12_tableGoal_20 : decode cX12_tableGoal 20 = .ok (.invokevirtual 256, 3) := by decide +kernel
theorem dX12_tableGoal_23 : decode cX12_tableGoal 23 = .ok (.istore_n 3, 1) := by decide +kernel
theorem dX12_tableGoal_24 : decode cX12_tableGoal 24 = .ok (.iload_n 3, 1) := by decide +kernel
theorem dX12_tableGoal_25 : decode cX12_tableGoal 25 = .ok (.ifCond .ne 12, 3) := by decide +kernel
theorem dX12_tableGoal_28 : decode cX12_tableGoal 28 = .ok (.aload_n 0, 1) := by decide +kernel
theorem dX12_tableGoal_29 : decode cX12_tableGoal 29 = .ok (.aload_n 0, 1) := by decide +kernel
theorem dX12_tableGoal_30 : decode cX12_tableGoal 30 = .ok (.getfield 244, 3) := by decide +kernel
theorem dX12_tableGoal_33 : decode cX12_tableGoal 33 = .ok (.invokevirtual 266, 3) := by decide +kernel
theorem dX12_tableGoal_36 : decode cX12_tableGoal 36 = .ok (.ireturn, 1) := by decide +kernel
theorem dX12_tableGoal_37 : decode cX12_tableGoal 37 = .ok (.iload_n 3, 1) := by decide +kernel
theorem dX12_tableGoal_38 : decode cX12_tableGoal 38 = .ok (.bipush 9, 2) := by decide +kernel
theorem dX12_tableGoal_40 : decode cX12_tableGoal 40 = .ok (.if_icmp .le 9, 3) := by decide +kernel
theorem dX12_tableGoal_43 : decode cX12_tableGoal 43 = .ok (.aload_n 0, 1) := by decide +kernel
theorem dX12_tableGoal_44 : decode cX12_tableGoal 44 = .ok (.iload_n 2, 1) := by decide +kernel
theorem dX12_tableGoal_45 : decode cX12_tableGoal 45 = .ok (.invokevirtual 266, 3) := by decide +kernel
theorem dX12_tableGoal_48 : decode cX12_tableGoal 48 = .ok (.ireturn, 1) := by decide +kernel
theorem dX12_tableGoal_49 : decode cX12_tableGoal 49 = .ok (.aload_n 0, 1) := by decide +kernel
theorem dX12_tableGoal_50 : decode cX12_tableGoal 50 = .ok (.invokevirtual 262, 3) := by decide +kernel
theorem dX12_tableGoal_53 : decode cX12_tableGoal 53 = .ok (.istore 4, 2) := by decide +kernel
theorem dX12_tableGoal_55 : decode cX12_tableGoal 55 = .ok (.aload_n 0, 1) := by decide +kernel
theorem dX12_tableGoal_56 : decode cX12_tableGoal 56 = .ok (.getfield 106, 3) := by decide +kernel
theorem dX12_tableGoal_59 : decode cX12_tableGoal 59 = .ok (.iload_n 1, 1) := by decide +kernel
theorem dX12_tableGoal_60 : decode cX12_tableGoal 60 = .ok (.aload_n 0, 1) := by decide +kernel
theorem dX12_tableGoal_61 : decode cX12_tableGoal 61 = .ok (.getfield 259, 3) := by decide +kernel
theorem dX12_tableGoal_64 : decode cX12_tableGoal 64 = .ok (.iastore, 1) := by decide +kernel
theorem dX12_tableGoal_65 : decode cX12_tableGoal 65 = .ok (.aload_n 0, 1) := by decide +kernel
theorem dX12_tableGoal_66 : decode cX12_tableGoal 66 = .ok (.aload_n 0, 1) := by decide +kernel
theorem dX12_tableGoal_67 : decode cX12_tableGoal 67 = .ok (.getfield 259, 3) := by decide +kernel
theorem dX12_tableGoal_70 : decode cX12_tableGoal 70 = .ok (.invokevirtual 153, 3) := by decide +kernel
theorem dX12_tableGoal_73 : decode cX12_tableGoal 73 = .ok (.ifCond .ne 9, 3) := by decide +kernel
theorem dX12_tableGoal_76 : decode cX12_tableGoal 76 = .ok (.aload_n 0, 1) := by decide +kernel
theorem dX12_tableGoal_77 : decode cX12_tableGoal 77 = .ok (.iload_n 2, 1) := by decide +kernel
theorem dX12_tableGoal_78 : decode cX12_tableGoal 78 = .ok (.invokevirtual 266, 3) := by decide +kernel
theorem dX12_tableGoal_81 : decode cX12_tableGoal 81 = .ok (.ireturn, 1) := by decide +kernel
theorem dX12_tableGoal_82 : decode cX12_tableGoal 82 = .ok (.aload_n 0, 1) := by decide +kernel
theorem dX12_tableGoal_83 : decode cX12_tableGoal 83 = .ok (.bipush 40, 2) := by decide +kernel
theorem dX12_tableGoal_85 : decode cX12_tableGoal 85 = .ok (.invokevirtual 269, 3) := by decide +kernel
theorem dX12_tableGoal_88 : decode cX12_tableGoal 88 = .ok (.ifCond .ne 12, 3) := by decide +kernel
theorem dX12_tableGoal_91 : decode cX12_tableGoal 91 = .ok (.aload_n 0, 1) := by decide +kernel
theorem dX12_tableGoal_92 : decode cX12_tableGoal 92 = .ok (.aload_n 0, 1) := by decide +kernel
theorem dX12_tableGoal_93 : decode cX12_tableGoal 93 = .ok (.getfield 244, 3) := by decide +kernel
theorem dX12_tableGoal_96 : decode cX12_tableGoal 96 = .ok (.invokevirtual 266, 3) := by decide +kernel
theorem dX12_tableGoal_99 : decode cX12_tableGoal 99 = .ok (.ireturn, 1) := by decide +kernel
theorem dX12_tableGoal_100 : decode cX12_tableGoal 100 = .ok (.iconst 0, 1) := by decide +kernel
theorem dX12_tableGoal_101 : decode cX12_tableGoal 101 = .ok (.istore 5, 2) := by decide +kernel
theorem dX12_tableGoal_103 : decode cX12_tableGoal 103 = .ok (.iconst 1, 1) := by decide +kernel
theorem dX12_tableGoal_104 : decode cX12_tableGoal 104 = .ok (.istore 6, 2) := by decide +kernel
theorem dX12_tableGoal_106 : decode cX12_tableGoal 106 = .ok (.iload 6, 2) := by decide +kernel
theorem dX12_tableGoal_108 : decode cX12_tableGoal 108 = .ok (.ifCond .eq 73, 3) := by decide +kernel
theorem dX12_tableGoal_111 : decode cX12_tableGoal 111 = .ok (.aload_n 0, 1) := by decide +kernel
theorem dX12_tableGoal_112 : decode cX12_tableGoal 112 = .ok (.invokevirtual 250, 3) := by decide +kernel
theorem dX12_tableGoal_115 : decode cX12_tableGoal 115 = .ok (.iload 5, 2) := by decide +kernel
theorem dX12_tableGoal_117 : decode cX12_tableGoal 117 = .ok (.aload_n 0, 1) := by decide +kernel
theorem dX12_tableGoal_118 : decode cX12_tableGoal 118 = .ok (.getfield 21, 3) := by decide +kernel
theorem dX12_tableGoal_121 : decode cX12_tableGoal 121 = .ok (.aload_n 0, 1) := by decide +kernel
theorem dX12_tableGoal_122 : decode cX12_tableGoal 122 = .ok (.getfield 106, 3) := by decide +kernel
theorem dX12_tableGoal_125 : decode cX12_tableGoal 125 = .ok (.iload_n 1, 1) := by decide +kernel
theorem dX12_tableGoal_126 : decode cX12_tableGoal 126 = .ok (.iaload, 1) := by decide +kernel
theorem dX12_tableGoal_127 : decode cX12_tableGoal 127 = .ok (.iaload, 1) := by decide +kernel
theorem dX12_tableGoal_128 : decode cX12_tableGoal 128 = .ok (.if_icmp .ne 12, 3) := by decide +kernel
theorem dX12_tableGoal_131 : decode cX12_tableGoal 131 = .ok (.aload_n 0, 1) := by decide +kernel
theorem dX12_tableGoal_132 : decode cX12_tableGoal 132 = .ok (.aload_n 0, 1) := by decide +kernel
theorem dX12_tableGoal_133 : decode cX12_tableGoal 133 = .ok (.getfield 244, 3) := by decide +kernel
theorem dX12_tableGoal_136 : decode cX12_tableGoal 136 = .ok (.invokevirtual 266, 3) := by decide +kernel
theorem dX12_tableGoal_139 : decode cX12_tableGoal 139 = .ok (.ireturn, 1) := by decide +kernel
theorem dX12_tableGoal_140 : decode cX12_tableGoal 140 = .ok (.aload_n 0, 1) := by decide +kernel
theorem dX12_tableGoal_141 : decode cX12_tableGoal 141 = .ok (.getfield 244, 3) := by decide +kernel
theorem dX12_tableGoal_144 : decode cX12_tableGoal 144 = .ok (.istore 7, 2) := by decide +kernel
theorem dX12_tableGoal_146 : decode cX12_tableGoal 146 = .ok (.aload_n 0, 1) := by decide +kernel
theorem dX12_tableGoal_147 : decode cX12_tableGoal 147 = .ok (.iconst 5, 1) := by decide +kernel
theorem dX12_tableGoal_148 : decode cX12_tableGoal 148 = .ok (.iload_n 1, 1) := by decide +kernel
theorem dX12_tableGoal_149 : decode cX12_tableGoal 149 = .ok (.imul, 1) := by decide +kernel
theorem dX12_tableGoal_150 : decode cX12_tableGoal 150 = .ok (.iload 5, 2) := by decide +kernel
theorem dX12_tableGoal_152 : decode cX12_tableGoal 152 = .ok (.iadd, 1) := by decide +kernel
theorem dX12_tableGoal_153 : decode cX12_tableGoal 153 = .ok (.iconst 1, 1) := by decide +kernel
theorem dX12_tableGoal_154 : decode cX12_tableGoal 154 = .ok (.invokevirtual 272, 3) := by decide +kernel
theorem dX12_tableGoal_157 : decode cX12_tableGoal 157 = .ok (.ifCond .ne 10, 3) := by decide +kernel
theorem dX12_tableGoal_160 : decode cX12_tableGoal 160 = .ok (.aload_n 0, 1) := by decide +kernel
theorem dX12_tableGoal_161 : decode cX12_tableGoal 161 = .ok (.iload 7, 2) := by decide +kernel
theorem dX12_tableGoal_163 : decode cX12_tableGoal 163 = .ok (.invokevirtual 266, 3) := by decide +kernel
theorem dX12_tableGoal_166 : decode cX12_tableGoal 166 = .ok (.ireturn, 1) := by decide +kernel
theorem dX12_tableGoal_167 : decode cX12_tableGoal 167 = .ok (.iinc 5 1, 3) := by decide +kernel
theorem dX12_tableGoal_170 : decode cX12_tableGoal 170 = .ok (.aload_n 0, 1) := by decide +kernel
theorem dX12_tableGoal_171 : decode cX12_tableGoal 171 = .ok (.bipush 44, 2) := by decide +kernel
theorem dX12_tableGoal_173 : decode cX12_tableGoal 173 = .ok (.invokevirtual 269, 3) := by decide +kernel
theorem dX12_tableGoal_176 : decode cX12_tableGoal 176 = .ok (.istore 6, 2) := by decide +kernel
theorem dX12_tableGoal_178 : decode cX12_tableGoal 178 = .ok (.goto (-72), 3) := by decide +kernel
theorem dX12_tableGoal_181 : decode cX12_tableGoal 181 = .ok (.aload_n 0, 1) := by decide +kernel
theorem dX12_tableGoal_182 : decode cX12_tableGoal 182 = .ok (.invokevirtual 250, 3) := by decide +kernel
theorem dX12_tableGoal_185 : decode cX12_tableGoal 185 = .ok (.aload_n 0, 1) := by decide +kernel
theorem dX12_tableGoal_186 : decode cX12_tableGoal 186 = .ok (.aload_n 0, 1) := by decide +kernel
theorem dX12_tableGoal_187 : decode cX12_tableGoal 187 = .ok (.getfield 244, 3) := by decide +kernel
theorem dX12_tableGoal_190 : decode cX12_tableGoal 190 = .ok (.invokevirtual 247, 3) := by decide +kernel
theorem dX12_tableGoal_193 : decode cX12_tableGoal 193 = .ok (.bipush 41, 2) := by decide +kernel
theorem dX12_tableGoal_195 : decode cX12_tableGoal 195 = .ok (.if_icmp .ne 19, 3) := by decide +kernel
theorem dX12_tableGoal_198 : decode cX12_tableGoal 198 = .ok (.iload 5, 2) := by decide +kernel
theorem dX12_tableGoal_200 : decode cX12_tableGoal 200 = .ok (.aload_n 0, 1) := by decide +kernel
theorem dX12_tableGoal_201 : decode cX12_tableGoal 201 = .ok (.getfield 21, 3) := by decide +kernel
theorem dX12_tableGoal_204 : decode cX12_tableGoal 204 = .ok (.aload_n 0, 1) := by decide +kernel
theorem dX12_tableGoal_205 : decode cX12_tableGoal 205 = .ok (.getfield 106, 3) := by decide +kernel
theorem dX12_tableGoal_208 : decode cX12_tableGoal 208 = .ok (.iload_n 1, 1) := by decide +kernel
theorem dX12_tableGoal_209 : decode cX12_tableGoal 209 = .ok (.iaload, 1) := by decide +kernel
theorem dX12_tableGoal_210 : decode cX12_tableGoal 210 = .ok (.iaload, 1) := by decide +kernel
theorem dX12_tableGoal_211 : decode cX12_tableGoal 211 = .ok (.if_icmp .ge 12, 3) := by decide +kernel
theorem dX12_tableGoal_214 : decode cX12_tableGoal 214 = .ok (.aload_n 0, 1) := by decide +kernel
theorem dX12_tableGoal_215 : decode cX12_tableGoal 215 = .ok (.aload_n 0, 1) := by decide +kernel
theorem dX12_tableGoal_216 : decode cX12_tableGoal 216 = .ok (.getfield 244, 3) := by decide +kernel
theorem dX12_tableGoal_219 : decode cX12_tableGoal 219 = .ok (.invokevirtual 266, 3) := by decide +kernel
theorem dX12_tableGoal_222 : decode cX12_tableGoal 222 = .ok (.ireturn, 1) := by decide +kernel
theorem dX12_tableGoal_223 : decode cX12_tableGoal 223 = .ok (.aload_n 0, 1) := by decide +kernel
theorem dX12_tableGoal_224 : decode cX12_tableGoal 224 = .ok (.dup, 1) := by decide +kernel
theorem dX12_tableGoal_225 : decode cX12_tableGoal 225 = .ok (.getfield 244, 3) := by decide +kernel
theorem dX12_tableGoal_228 : decode cX12_tableGoal 228 = .ok (.iconst 1, 1) := by decide +kernel
theorem dX12_tableGoal_229 : decode cX12_tableGoal 229 = .ok (.iadd, 1) := by decide +kernel
theorem dX12_tableGoal_230 : decode cX12_tableGoal 230 = .ok (.putfield 244, 3) := by decide +kernel
theorem dX12_tableGoal_233 : decode cX12_tableGoal 233 = .ok (.aload_n 0, 1) := by decide +kernel
theorem dX12_tableGoal_234 : decode cX12_tableGoal 234 = .ok (.getfield 115, 3) := by decide +kernel
theorem dX12_tableGoal_237 : decode cX12_tableGoal 237 = .ok (.iload_n 1, 1) := by decide +kernel
theorem dX12_tableGoal_238 : decode cX12_tableGoal 238 = .ok (.iconst 1, 1) := by decide +kernel
theorem dX12_tableGoal_239 : decode cX12_tableGoal 239 = .ok (.iadd, 1) := by decide +kernel
theorem dX12_tableGoal_240 : decode cX12_tableGoal 240 = .ok (.aload_n 0, 1) := by decide +kernel
theorem dX12_tableGoal_241 : decode cX12_tableGoal 241 = .ok (.getfield 115, 3) := by decide +kernel
theorem dX12_tableGoal_244 : decode cX12_tableGoal 244 = .ok (.iload_n 1, 1) := by decide +kernel
theorem dX12_tableGoal_245 : decode cX12_tableGoal 245 = .ok (.iaload, 1) := by decide +kernel
theorem dX12_tableGoal_246 : decode cX12_tableGoal 246 = .ok (.iastore, 1) := by decide +kernel
theorem dX12_tableGoal_247 : decode cX12_tableGoal 247 = .ok (.iconst 0, 1) := by decide +kernel
theorem dX12_tableGoal_248 : decode cX12_tableGoal 248 = .ok (.istore 7, 2) := by decide +kernel
theorem dX12_tableGoal_250 : decode cX12_tableGoal 250 = .ok (.iload 7, 2) := by decide +kernel
theorem dX12_tableGoal_252 : decode cX12_tableGoal 252 = .ok (.iload 5, 2) := by decide +kernel
theorem dX12_tableGoal_254 : decode cX12_tableGoal 254 = .ok (.if_icmp .ge 57, 3) := by decide +kernel
theorem dX12_tableGoal_257 : decode cX12_tableGoal 257 = .ok (.aload_n 0, 1) := by decide +kernel
theorem dX12_tableGoal_258 : decode cX12_tableGoal 258 = .ok (.getfield 103, 3) := by decide +kernel
theorem dX12_tableGoal_261 : decode cX12_tableGoal 261 = .ok (.iload_n 1, 1) := by decide +kernel
theorem dX12_tableGoal_262 : decode cX12_tableGoal 262 = .ok (.iaload, 1) := by decide +kernel
theorem dX12_tableGoal_263 : decode cX12_tableGoal 263 = .ok (.ifCond .ne 48, 3) := by decide +kernel
theorem dX12_tableGoal_266 : decode cX12_tableGoal 266 = .ok (.aload_n 0, 1) := by decide +kernel
theorem dX12_tableGoal_267 : decode cX12_tableGoal 267 = .ok (.getfield 109, 3) := by decide +kernel
theorem dX12_tableGoal_270 : decode cX12_tableGoal 270 = .ok (.iconst 5, 1) := by decide +kernel
theorem dX12_tableGoal_271 : decode cX12_tableGoal 271 = .ok (.iload_n 1, 1) := by decide +kernel
theorem dX12_tableGoal_272 : decode cX12_tableGoal 272 = .ok (.imul, 1) := by decide +kernel
theorem dX12_tableGoal_273 : decode cX12_tableGoal 273 = .ok (.iload 7, 2) := by decide +kernel
theorem dX12_tableGoal_275 : decode cX12_tableGoal 275 = .ok (.iadd, 1) := by decide +kernel
theorem dX12_tableGoal_276 : decode cX12_tableGoal 276 = .ok (.iaload, 1) := by decide +kernel
theorem dX12_tableGoal_277 : decode cX12_tableGoal 277 = .ok (.iconst 1, 1) := by decide +kernel
theorem dX12_tableGoal_278 : decode cX12_tableGoal 278 = .ok (.if_icmp .ne 27, 3) := by decide +kernel
theorem dX12_tableGoal_281 : decode cX12_tableGoal 281 = .ok (.aload_n 0, 1) := by decide +kernel
theorem dX12_tableGoal_282 : decode cX12_tableGoal 282 = .ok (.getfield 115, 3) := by decide +kernel
theorem dX12_tableGoal_285 : decode cX12_tableGoal 285 = .ok (.iload_n 1, 1) := by decide +kernel
theorem dX12_tableGoal_286 : decode cX12_tableGoal 286 = .ok (.iconst 1, 1) := by decide +kernel
theorem dX12_tableGoal_287 : decode cX12_tableGoal 287 = .ok (.iadd, 1) := by decide +kernel
theorem dX12_tableGoal_288 : decode cX12_tableGoal 288 = .ok (.dup2, 1) := by decide +kernel
theorem dX12_tableGoal_289 : decode cX12_tableGoal 289 = .ok (.iaload, 1) := by decide +kernel
theorem dX12_tableGoal_290 : decode cX12_tableGoal 290 = .ok (.iconst 1, 1) := by decide +kernel
theorem dX12_tableGoal_291 : decode cX12_tableGoal 291 = .ok (.aload_n 0, 1) := by decide +kernel
theorem dX12_tableGoal_292 : decode cX12_tableGoal 292 = .ok (.getfield 112, 3) := by decide +kernel
theorem dX12_tableGoal_295 : decode cX12_tableGoal 295 = .ok (.iconst 5, 1) := by decide +kernel
theorem dX12_tableGoal_296 : decode cX12_tableGoal 296 = .ok (.iload_n 1, 1) := by decide +kernel
theorem dX12_tableGoal_297 : decode cX12_tableGoal 297 = .ok (.imul, 1) := by decide +kernel
theorem dX12_tableGoal_298 : decode cX12_tableGoal 298 = .ok (.iload 7, 2) := by decide +kernel
theorem dX12_tableGoal_300 : decode cX12_tableGoal 300 = .ok (.iadd, 1) := by decide +kernel
theorem dX12_tableGoal_301 : decode cX12_tableGoal 301 = .ok (.iaload, 1) := by decide +kernel
theorem dX12_tableGoal_302 : decode cX12_tableGoal 302 = .ok (.ishl, 1) := by decide +kernel
theorem dX12_tableGoal_303 : decode cX12_tableGoal 303 = .ok (.ior, 1) := by decide +kernel
theorem dX12_tableGoal_304 : decode cX12_tableGoal 304 = .ok (.iastore, 1) := by decide +kernel
theorem dX12_tableGoal_305 : decode cX12_tableGoal 305 = .ok (.iinc 7 1, 3) := by decide +kernel
theorem dX12_tableGoal_308 : decode cX12_tableGoal 308 = .ok (.goto (-58), 3) := by decide +kernel
theorem dX12_tableGoal_311 : decode cX12_tableGoal 311 = .ok (.iconst 1, 1) := by decide +kernel
theorem dX12_tableGoal_312 : decode cX12_tableGoal 312 = .ok (.ireturn, 1) := by decide +kernel
theorem i9wsX12_tableGoal_0 : ∀ w ∈ wsX12_tableGoal_r1, w ∈ wsX12_tableGoal := fun _ h => (List.mem_cons_of_mem _ (List.mem_append_left _ (List.mem_append_left _ h)))
theorem i9wsX12_tableGoal_3 : ∀ w ∈ wsX120, w ∈ wsX12_tableGoal := fun _ h => (List.mem_cons_of_mem _ (List.mem_append_right _ h))
set_option maxRecDepth 20000 in
theorem ggX12_tableGoal_X12_digits : GoodIn wsX12_tableGoal wsX12_digits := (gin_c (mem_at i9wsX12_tableGoal_0 12 rfl) rfl (goodIn_app (gin_c (mem_at i9wsX12_tableGoal_0 13 rfl) rfl (gin_c (mem_at i9wsX12_tableGoal_0 14 rfl) rfl (gin_c (mem_at i9wsX12_tableGoal_0 15 rfl) rfl (gin_c (mem_at i9wsX12_tableGoal_0 11 rfl) rfl (gin_c (mem_at i9wsX12_tableGoal_0 16 rfl) rfl (gin_c (mem_at i9wsX12_tableGoal_0 17 rfl) rfl (gin_c (mem_at i9wsX12_tableGoal_0 18 rfl) rfl (gin_c (mem_at i9wsX12_tableGoal_0 19 rfl) rfl (gin_c (mem_at i9wsX12_tableGoal_0 20 rfl) rfl (gin_c (mem_at i9wsX12_tableGoal_0 21 rfl) rfl (gin_c (mem_at i9wsX12_tableGoal_0 22 rfl) rfl gin_n))))))))))) (goodIn_sub i9wsX12_tableGoal_3 g9_16)))
set_option maxRecDepth 20000 in
theorem gX12_tableGoal_X12_digits : GoodIn wsX12_tableGoal (wsV RX12 256 RX12 yX12_digits wsX12_digits) := goodIn_app (gin_c (mem_at i9wsX12_tableGoal_0 8 rfl) rfl (gin_c (mem_at i9wsX12_tableGoal_0 9 rfl) rfl (gin_c (mem_at i9wsX12_tableGoal_0 10 rfl) rfl (gin_c (mem_at i9wsX12_tableGoal_0 11 rfl) rfl gin_n)))) ggX12_tableGoal_X12_digits
theorem i9wsX12_tableGoal_1 : ∀ w ∈ wsX12_tableGoal_r2, w ∈ wsX12_tableGoal := fun _ h => (List.mem_cons_of_mem _ (List.mem_append_left _ (List.mem_append_right _ (List.mem_append_left _ h))))
set_option maxRecDepth 20000 in
theorem ggX12_tableGoal_X12_wrong : GoodIn wsX12_tableGoal wsX12_wrong := (gin_c (mem_at i9wsX12_tableGoal_1 2 rfl) rfl (goodIn_app (gin_c (mem_at i9wsX12_tableGoal_0 17 rfl) rfl (gin_c (mem_at i9wsX12_tableGoal_1 3 rfl) rfl gin_n)) (goodIn_sub i9wsX12_tableGoal_3 g9_16)))
set_option maxRecDepth 20000 in
theorem gX12_tableGoal_X12_wrong : GoodIn wsX12_tableGoal (wsV RX12 266 RX12 yX12_wrong wsX12_wrong) := goodIn_app (gin_c (mem_at i9wsX12_tableGoal_0 23 rfl) rfl (gin_c (mem_at i9wsX12_tableGoal_1 0 rfl) rfl (gin_c (mem_at i9wsX12_tableGoal_1 1 rfl) rfl (gin_c (mem_at i9wsX12_tableGoal_0 11 rfl) rfl gin_n)))) ggX12_tableGoal_X12_wrong
set_option maxRecDepth 20000 in
theorem ggX12_tableGoal_X12_digits0 : GoodIn wsX12_tableGoal wsX12_digits0 := (gin_c (mem_at i9wsX12_tableGoal_1 7 rfl) rfl (goodIn_app (gin_c (mem_at i9wsX12_tableGoal_0 0 rfl) rfl (gin_c (mem_at i9wsX12_tableGoal_0 2 rfl) rfl (gin_c (mem_at i9wsX12_tableGoal_0 13 rfl) rfl (gin_c (mem_at i9wsX12_tableGoal_0 14 rfl) rfl (gin_c (mem_at i9wsX12_tableGoal_0 15 rfl) rfl (gin_c (mem_at i9wsX12_tableGoal_0 11 rfl) rfl (gin_c (mem_at i9wsX12_tableGoal_0 16 rfl) rfl (gin_c (mem_at i9wsX12_tableGoal_0 17 rfl) rfl (gin_c (mem_at i9wsX12_tableGoal_0 18 rfl) rfl (gin_c (mem_at i9wsX12_tableGoal_0 8 rfl) rfl (gin_c (mem_at i9wsX12_tableGoal_0 9 rfl) rfl (gin_c (mem_at i9wsX12_tableGoal_0 10 rfl) rfl (gin_c (mem_at i9wsX12_tableGoal_0 12 rfl) rfl (gin_c (mem_at i9wsX12_tableGoal_0 19 rfl) rfl (gin_c (mem_at i9wsX12_tableGoal_0 20 rfl) rfl (gin_c (mem_at i9wsX12_tableGoal_0 21 rfl) rfl (gin_c (mem_at i9wsX12_tableGoal_0 22 rfl) rfl gin_n))))))))))))))))) (goodIn_sub i9wsX12_tableGoal_3 g9_16)))
set_option maxRecDepth 20000 in
theorem gX12_tableGoal_X12_digits0 : GoodIn wsX12_tableGoal (wsV RX12 262 RX12 yX12_digits0 wsX12_digits0) := goodIn_app (gin_c (mem_at i9wsX12_tableGoal_1 4 rfl) rfl (gin_c (mem_at i9wsX12_tableGoal_1 5 rfl) rfl (gin_c (mem_at i9wsX12_tableGoal_1 6 rfl) rfl (gin_c (mem_at i9wsX12_tableGoal_0 11 rfl) rfl gin_n)))) ggX12_tableGoal_X12_digits0
set_option maxRecDepth 20000 in
theorem ggX12_tableGoal_X12_isTable : GoodIn wsX12_tableGoal wsX12_isTable := (gin_c (mem_at i9wsX12_tableGoal_1 11 rfl) rfl (goodIn_app (gin_c (mem_at i9wsX12_tableGoal_1 12 rfl) rfl gin_n) (goodIn_sub i9wsX12_tableGoal_3 g9_16)))
set_option maxRecDepth 20000 in
theorem gX12_tableGoal_X12_isTable : GoodIn wsX12_tableGoal (wsV RX12 153 RX12 yX12_isTable wsX12_isTable) := goodIn_app (gin_c (mem_at i9wsX12_tableGoal_1 8 rfl) rfl (gin_c (mem_at i9wsX12_tableGoal_1 9 rfl) rfl (gin_c (mem_at i9wsX12_tableGoal_1 10 rfl) rfl (gin_c (mem_at i9wsX12_tableGoal_0 11 rfl) rfl gin_n)))) ggX12_tableGoal_X12_isTable
set_option maxRecDepth 20000 in
theorem ggX12_tableGoal_X12_take : GoodIn wsX12_tableGoal wsX12_take := (gin_c (mem_at i9wsX12_tableGoal_1 16 rfl) rfl (goodIn_app (gin_c (mem_at i9wsX12_tableGoal_0 0 rfl) rfl (gin_c (mem_at i9wsX12_tableGoal_1 17 rfl) rfl (gin_c (mem_at i9wsX12_tableGoal_1 18 rfl) rfl (gin_c (mem_at i9wsX12_tableGoal_1 19 rfl) rfl (gin_c (mem_at i9wsX12_tableGoal_0 11 rfl) rfl (gin_c (mem_at i9wsX12_tableGoal_1 20 rfl) rfl (gin_c (mem_at i9wsX12_tableGoal_0 13 rfl) rfl (gin_c (mem_at i9wsX12_tableGoal_0 14 rfl) rfl (gin_c (mem_at i9wsX12_tableGoal_0 15 rfl) rfl (gin_c (mem_at i9wsX12_tableGoal_0 16 rfl) rfl (gin_c (mem_at i9wsX12_tableGoal_0 17 rfl) rfl (gin_c (mem_at i9wsX12_tableGoal_0 18 rfl) rfl gin_n)))))))))))) (goodIn_sub i9wsX12_tableGoal_3 g9_16)))
set_option maxRecDepth 20000 in
theorem gX12_tableGoal_X12_take : GoodIn wsX12_tableGoal (wsV RX12 269 RX12 yX12_take wsX12_take) := goodIn_app (gin_c (mem_at i9wsX12_tableGoal_1 13 rfl) rfl (gin_c (mem_at i9wsX12_tableGoal_1 14 rfl) rfl (gin_c (mem_at i9wsX12_tableGoal_1 15 rfl) rfl (gin_c (mem_at i9wsX12_tableGoal_0 11 rfl) rfl gin_n)))) ggX12_tableGoal_X12_take
set_option maxRecDepth 20000 in
theorem ggX12_tableGoal_X12_blanks : GoodIn wsX12_tableGoal wsX12_blanks := (gin_c (mem_at i9wsX12_tableGoal_1 20 rfl) rfl (goodIn_app (gin_c (mem_at i9wsX12_tableGoal_0 0 rfl) rfl (gin_c (mem_at i9wsX12_tableGoal_0 13 rfl) rfl (gin_c (mem_at i9wsX12_tableGoal_0 14 rfl) rfl (gin_c (mem_at i9wsX12_tableGoal_0 15 rfl) rfl (gin_c (mem_at i9wsX12_tableGoal_0 11 rfl) rfl (gin_c (mem_at i9wsX12_tableGoal_0 16 rfl) rfl (gin_c (mem_at i9wsX12_tableGoal_0 17 rfl) rfl (gin_c (mem_at i9wsX12_tableGoal_0 18 rfl) rfl gin_n)))))))) (goodIn_sub i9wsX12_tableGoal_3 g9_16)))
set_option maxRecDepth 20000 in
theorem gX12_tableGoal_X12_blanks : GoodIn wsX12_tableGoal (wsV RX12 250 RX12 yX12_blanks wsX12_blanks) := goodIn_app (gin_c (mem_at i9wsX12_tableGoal_1 17 rfl) rfl (gin_c (mem_at i9wsX12_tableGoal_1 18 rfl) rfl (gin_c (mem_at i9wsX12_tableGoal_1 19 rfl) rfl (gin_c (mem_at i9wsX12_tableGoal_0 11 rfl) rfl gin_n)))) ggX12_tableGoal_X12_blanks
theorem i9wsX12_tableGoal_2 : ∀ w ∈ wsX12_tableGoal_r3, w ∈ wsX12_tableGoal := fun _ h => (List.mem_cons_of_mem _ (List.mem_append_left _ (List.mem_append_right _ (List.mem_append_right _ h))))
set_option maxRecDepth 20000 in
theorem ggX12_tableGoal_X12_argument : GoodIn wsX12_tableGoal wsX12_argument := (gin_c (mem_at i9wsX12_tableGoal_2 0 rfl) rfl (goodIn_app (goodIn_app (gin_c (mem_at i9wsX12_tableGoal_0 0 rfl) rfl (gin_c (mem_at i9wsX12_tableGoal_0 6 rfl) rfl (gin_c (mem_at i9wsX12_tableGoal_0 7 rfl) rfl (gin_c (mem_at i9wsX12_tableGoal_0 2 rfl) rfl (gin_c (mem_at i9wsX12_tableGoal_1 17 rfl) rfl (gin_c (mem_at i9wsX12_tableGoal_1 18 rfl) rfl (gin_c (mem_at i9wsX12_tableGoal_1 19 rfl) rfl (gin_c (mem_at i9wsX12_tableGoal_0 11 rfl) rfl (gin_c (mem_at i9wsX12_tableGoal_1 20 rfl) rfl (gin_c (mem_at i9wsX12_tableGoal_0 13 rfl) rfl (gin_c (mem_at i9wsX12_tableGoal_0 14 rfl) rfl (gin_c (mem_at i9wsX12_tableGoal_0 15 rfl) rfl (gin_c (mem_at i9wsX12_tableGoal_0 16 rfl) rfl (gin_c (mem_at i9wsX12_tableGoal_0 17 rfl) rfl (gin_c (mem_at i9wsX12_tableGoal_0 18 rfl) rfl (gin_c (mem_at i9wsX12_tableGoal_0 19 rfl) rfl (gin_c (mem_at i9wsX12_tableGoal_0 20 rfl) rfl (gin_c (mem_at i9wsX12_tableGoal_0 21 rfl) rfl (gin_c (mem_at i9wsX12_tableGoal_0 22 rfl) rfl (gin_c (mem_at i9wsX12_tableGoal_1 4 rfl) rfl (gin_c (mem_at i9wsX12_tableGoal_1 5 rfl) rfl (gin_c (mem_at i9wsX12_tableGoal_1 6 rfl) rfl (gin_c (mem_at i9wsX12_tableGoal_1 7 rfl) rfl (gin_c (mem_at i9wsX12_tableGoal_0 8 rfl) rfl gin_n)))))))))))))))))))))))) (gin_c (mem_at i9wsX12_tableGoal_0 9 rfl) rfl (gin_c (mem_at i9wsX12_tableGoal_0 10 rfl) rfl (gin_c (mem_at i9wsX12_tableGoal_0 12 rfl) rfl gin_n)))) (goodIn_sub i9wsX12_tableGoal_3 g9_16)))
set_option maxRecDepth 20000 in
theorem gX12_tableGoal_X12_argument : GoodIn wsX12_tableGoal (wsV RX12 272 RX12 yX12_argument wsX12_argument) := goodIn_app (gin_c (mem_at i9wsX12_tableGoal_1 21 rfl) rfl (gin_c (mem_at i9wsX12_tableGoal_1 22 rfl) rfl (gin_c (mem_at i9wsX12_tableGoal_1 23 rfl) rfl (gin_c (mem_at i9wsX12_tableGoal_0 11 rfl) rfl gin_n)))) ggX12_tableGoal_X12_argument
set_option maxRecDepth 20000 in
theorem ggX12_tableGoal_X12_byteAt : GoodIn wsX12_tableGoal wsX12_byteAt := (gin_c (mem_at i9wsX12_tableGoal_0 16 rfl) rfl (goodIn_app (gin_c (mem_at i9wsX12_tableGoal_0 17 rfl) rfl (gin_c (mem_at i9wsX12_tableGoal_0 18 rfl) rfl gin_n)) (goodIn_sub i9wsX12_tableGoal_3 g9_16)))
set_option maxRecDepth 20000 in
theorem gX12_tableGoal_X12_byteAt : GoodIn wsX12_tableGoal (wsV RX12 247 RX12 yX12_byteAt wsX12_byteAt) := goodIn_app (gin_c (mem_at i9wsX12_tableGoal_0 13 rfl) rfl (gin_c (mem_at i9wsX12_tableGoal_0 14 rfl) rfl (gin_c (mem_at i9wsX12_tableGoal_0 15 rfl) rfl (gin_c (mem_at i9wsX12_tableGoal_0 11 rfl) rfl gin_n)))) ggX12_tableGoal_X12_byteAt
set_option maxHeartbeats 4000000 in
set_option maxRecDepth 100000 in
theorem T_X12_tableGoal (l : Launch) (hl : l.stackTraces = false) (D : va_G) (cA : Nat → ClassId) {l0 : Option Nat} {l1 : Int32} {x : HS} {Q : Int32 → HS → Prop} {X : String → HS → Prop} (h : w_X12_tableGoal l0 l1 x Q X) : YI l yX12_tableGoal wsX12_tableGoal 4 91 D cA [.q l0, .i l1] x Q X := by
  refine YI.of (cc := cX12_tableGoal) (maxL := 8) (ret := (some .boolean)) hl (by decide) rfl rfl (fun g B fr => ?_)
  have o := B.o
  have hb := B.hb
  have hts := B.hts
  have hown : g.s.vm.findClass RX12 = some g.m.cls := B.hown
  have in12 : ∀ w ∈ u_ws RX12 TX12 57, w ∈ wsX12_tableGoal := fun w h => (List.mem_cons_of_mem _ (List.mem_append_right _ h))
  unfold w_X12_tableGoal at h
  show KW g 8 0 [(0, .q l0), (1, .i l1)] [] x
  refine k_aload_n o hb dX12_tableGoal_0 rfl 0 rfl ?_
  refine k_getI (C := RX12) (T := TX12) (N := 57) o hb hts in12 hown rfl (by decide) 41 (by decide) rfl (hts (.fieldLink RX12 244 "FactKeeperModel" "at" "I") (by decide +kernel)) (fun _ h9 => h9) dX12_tableGoal_1 h (fun v1 h => ?_)
  refine k_istore_n o hb dX12_tableGoal_4 rfl rfl ?_
  refine k_aload_n o hb dX12_tableGoal_5 rfl 1 rfl ?_
  refine k_dup o hb dX12_tableGoal_6 ?_
  refine k_getI (C := RX12) (T := TX12) (N := 57) o hb hts in12 hown rfl (by decide) 41 (by decide) rfl (hts (.fieldLink RX12 244 "FactKeeperModel" "at" "I") (by decide +kernel)) (fun _ h9 => h9) dX12_tableGoal_7 h (fun v2 h => ?_)
  refine k_iconst (v := 1) o hb dX12_tableGoal_10 (by decide) ?_
  refine k_iadd o hb dX12_tableGoal_11 ?_
  refine k_putI (C := RX12) (T := TX12) (N := 57) (ty := .int) o hb hts in12 tyX12 tyX12_ok nmX12 hown rfl (by decide) 41 (by decide) rfl (hts (.fieldLink RX12 244 "FactKeeperModel" "at" "I") (by decide +kernel)) (fun _ h9 => h9) rfl (by decide +kernel) (fun _ => rfl) (fun _ => rfl) dX12_tableGoal_12 h (fun x3 h => ?_)
  refine k_aload_n o hb dX12_tableGoal_15 rfl 1 rfl ?_
  refine k_aload_n o hb dX12_tableGoal_16 rfl 1 rfl ?_
  refine k_getI (C := RX12) (T := TX12) (N := 57) o hb hts in12 hown rfl (by decide) 41 (by decide) rfl (hts (.fieldLink RX12 244 "FactKeeperModel" "at" "I") (by decide +kernel)) (fun _ h9 => h9) dX12_tableGoal_17 h (fun v4 h => ?_)
  refine k_run_i o (fun _ _ q => q) (k_runV (ci := 12) (rc := (RX12, TX12, 57)) o hb B.hml hown hts rfl (by decide) (T_X12_digits g.l o.hl g.D g.cA h.2) (cwV 1 hts gX12_tableGoal_X12_digits rfl rfl rfl (by decide +kernel) ⟨yle B.hR1 rfl, yle B.hR2 rfl⟩) h.1 rfl rfl (Nat.le_of_ble_eq_true rfl) dX12_tableGoal_20) (fun v6 x5 h => ?_)
  refine k_istore_n o hb dX12_tableGoal_23 rfl rfl ?_
  refine k_iload_n o hb dX12_tableGoal_24 rfl 0 rfl ?_
  refine k_if_ne (tgt := 37) o hb dX12_tableGoal_25 (by decide) h (fun h => ?_) (fun h => ?_)
  · skip
    refine k_aload_n o hb dX12_tableGoal_28 rfl 2 rfl ?_
    refine k_aload_n o hb dX12_tableGoal_29 rfl 2 rfl ?_
    refine k_getI (C := RX12) (T := TX12) (N := 57) o hb hts in12 hown rfl (by decide) 41 (by decide) rfl (hts (.fieldLink RX12 244 "FactKeeperModel" "at" "I") (by decide +kernel)) (fun _ h9 => h9) dX12_tableGoal_30 h (fun v7 h => ?_)
    refine k_run_i o (fun _ _ q => q) (k_runV (ci := 12) (rc := (RX12, TX12, 57)) o hb B.hml hown hts rfl (by decide) (T_X12_wrong g.l o.hl g.D g.cA h.2) (cwV 1 hts gX12_tableGoal_X12_wrong rfl rfl rfl (by decide +kernel) ⟨yle B.hR1 rfl, yle B.hR2 rfl⟩) h.1 rfl rfl (Nat.le_of_ble_eq_true rfl) dX12_tableGoal_33) (fun v9 x8 h => ?_)
    exact k_zret o hb B.hr fr dX12_tableGoal_36 h
  · skip
    refine k_iload_n o hb dX12_tableGoal_37 rfl 0 rfl ?_
    refine k_bipush (v := 9) o hb dX12_tableGoal_38 (by decide) ?_
    refine k_icmp_le (tgt := 49) o hb dX12_tableGoal_40 (by decide) h (fun h => ?_) (fun h => ?_)
    · skip
      refine k_aload_n o hb dX12_tableGoal_49 rfl 2 rfl ?_
      refine k_run_i o (fun _ _ q => q) (k_runV (ci := 12) (rc := (RX12, TX12, 57)) o hb B.hml hown hts rfl (by decide) (T_X12_digits0 g.l o.hl g.D g.cA h.2) (cwV 0 hts gX12_tableGoal_X12_digits0 rfl rfl rfl (by decide +kernel) ⟨yle B.hR1 rfl, yle B.hR2 rfl⟩) h.1 rfl rfl (Nat.le_of_ble_eq_true rfl) dX12_tableGoal_50) (fun v11 x10 h => ?_)
      refine k_istore o hb dX12_tableGoal_53 rfl ?_
      refine k_aload_n o hb dX12_tableGoal_55 rfl 3 rfl ?_
      refine k_getF (C := RX12) (T := TX12) (N := 57) o hb hts in12 hown rfl (by decide) 45 (by decide) rfl (hts (.fieldLink RX12 106 "FactKeeperModel" "goalTable" "[I") (by decide +kernel)) (fun _ h9 => h9) dX12_tableGoal_56 h (fun v12 h => ?_)
      refine k_iload_n o hb dX12_tableGoal_59 rfl 4 rfl ?_
      refine k_aload_n o hb dX12_tableGoal_60 rfl 3 rfl ?_
      refine k_getI (C := RX12) (T := TX12) (N := 57) o hb hts in12 hown rfl (by decide) 43 (by decide) rfl (hts (.fieldLink RX12 259 "FactKeeperModel" "readNumber" "I") (by decide +kernel)) (fun _ h9 => h9) dX12_tableGoal_61 h (fun v13 h => ?_)
      refine k_iast o hb dX12_tableGoal_64 h (fun x14 h => ?_)
      refine k_aload_n o hb dX12_tableGoal_65 rfl 3 rfl ?_
      refine k_aload_n o hb dX12_tableGoal_66 rfl 3 rfl ?_
      refine k_getI (C := RX12) (T := TX12) (N := 57) o hb hts in12 hown rfl (by decide) 43 (by decide) rfl (hts (.fieldLink RX12 259 "FactKeeperModel" "readNumber" "I") (by decide +kernel)) (fun _ h9 => h9) dX12_tableGoal_67 h (fun v15 h => ?_)
      refine k_run_i o (fun _ _ q => q) (k_runV (ci := 12) (rc := (RX12, TX12, 57)) o hb B.hml hown hts rfl (by decide) (T_X12_isTable g.l o.hl g.D g.cA h.2) (cwV 1 hts gX12_tableGoal_X12_isTable rfl rfl rfl (by decide +kernel) ⟨yle B.hR1 rfl, yle B.hR2 rfl⟩) h.1 rfl rfl (Nat.le_of_ble_eq_true rfl) dX12_tableGoal_70) (fun v17 x16 h => ?_)
      refine k_if_ne (tgt := 82) o hb dX12_tableGoal_73 (by decide) h (fun h => ?_) (fun h => ?_)
      · skip
        refine k_aload_n o hb dX12_tableGoal_76 rfl 3 rfl ?_
        refine k_iload_n o hb dX12_tableGoal_77 rfl 2 rfl ?_
        refine k_run_i o (fun _ _ q => q) (k_runV (ci := 12) (rc := (RX12, TX12, 57)) o hb B.hml hown hts rfl (by decide) (T_X12_wrong g.l o.hl g.D g.cA h.2) (cwV 1 hts gX12_tableGoal_X12_wrong rfl rfl rfl (by decide +kernel) ⟨yle B.hR1 rfl, yle B.hR2 rfl⟩) h.1 rfl rfl (Nat.le_of_ble_eq_true rfl) dX12_tableGoal_78) (fun v19 x18 h => ?_)
        exact k_zret o hb B.hr fr dX12_tableGoal_81 h
      · skip
        refine k_aload_n o hb dX12_tableGoal_82 rfl 3 rfl ?_
        refine k_bipush (v := 40) o hb dX12_tableGoal_83 (by decide) ?_
        refine k_run_i o (fun _ _ q => q) (k_runV (ci := 12) (rc := (RX12, TX12, 57)) o hb B.hml hown hts rfl (by decide) (T_X12_take g.l o.hl g.D g.cA h.2) (cwV 1 hts gX12_tableGoal_X12_take rfl rfl rfl (by decide +kernel) ⟨yle B.hR1 rfl, yle B.hR2 rfl⟩) h.1 rfl rfl (Nat.le_of_ble_eq_true rfl) dX12_tableGoal_85) (fun v21 x20 h => ?_)
        refine k_if_ne (tgt := 100) o hb dX12_tableGoal_88 (by decide) h (fun h => ?_) (fun h => ?_)
        · skip
          refine k_aload_n o hb dX12_tableGoal_91 rfl 3 rfl ?_
          refine k_aload_n o hb dX12_tableGoal_92 rfl 3 rfl ?_
          refine k_getI (C := RX12) (T := TX12) (N := 57) o hb hts in12 hown rfl (by decide) 41 (by decide) rfl (hts (.fieldLink RX12 244 "FactKeeperModel" "at" "I") (by decide +kernel)) (fun _ h9 => h9) dX12_tableGoal_93 h (fun v22 h => ?_)
          refine k_run_i o (fun _ _ q => q) (k_runV (ci := 12) (rc := (RX12, TX12, 57)) o hb B.hml hown hts rfl (by decide) (T_X12_wrong g.l o.hl g.D g.cA h.2) (cwV 1 hts gX12_tableGoal_X12_wrong rfl rfl rfl (by decide +kernel) ⟨yle B.hR1 rfl, yle B.hR2 rfl⟩) h.1 rfl rfl (Nat.le_of_ble_eq_true rfl) dX12_tableGoal_96) (fun v24 x23 h => ?_)
          exact k_zret o hb B.hr fr dX12_tableGoal_99 h
        · skip
          refine k_iconst (v := 0) o hb dX12_tableGoal_100 (by decide) ?_
          refine k_istore o hb dX12_tableGoal_101 rfl ?_
          refine k_iconst (v := 1) o hb dX12_tableGoal_103 (by decide) ?_
          refine k_istore o hb dX12_tableGoal_104 rfl ?_
          refine KW.sub [5, 6, 1, 0] rfl ?_
          refine wLoop_elim (M := fun (v28 : Int32 × Int32) (x27 : HS) => KW g 8 106 [(0, .q l0), (1, .i l1), (5, .i v28.1), (6, .i v28.2)] [] x27) h ?_
          intro v28 x27 again25 ih26 h
          refine k_iload o hb dX12_tableGoal_106 3 rfl ?_
          refine k_if_eq (tgt := 181) o hb dX12_tableGoal_108 (by decide) h (fun h => ?_) (fun h => ?_)
          · skip
            refine k_aload_n o hb dX12_tableGoal_181 rfl 0 rfl ?_
            refine k_run_v o (fun _ _ q => q) (k_runV (ci := 12) (rc := (RX12, TX12, 57)) o hb B.hml hown hts rfl (by decide) (T_X12_blanks g.l o.hl g.D g.cA h.2) (cwV 0 hts gX12_tableGoal_X12_blanks rfl rfl rfl (by decide +kernel) ⟨yle B.hR1 rfl, yle B.hR2 rfl⟩) h.1 rfl rfl (Nat.le_of_ble_eq_true rfl) dX12_tableGoal_182) (fun x29 h => ?_)
            refine k_aload_n o hb dX12_tableGoal_185 rfl 0 rfl ?_
            refine k_aload_n o hb dX12_tableGoal_186 rfl 0 rfl ?_
            refine k_getI (C := RX12) (T := TX12) (N := 57) o hb hts in12 hown rfl (by decide) 41 (by decide) rfl (hts (.fieldLink RX12 244 "FactKeeperModel" "at" "I") (by decide +kernel)) (fun _ h9 => h9) dX12_tableGoal_187 h (fun v31 h => ?_)
            refine k_run_i o (fun _ _ q => q) (k_runV (ci := 12) (rc := (RX12, TX12, 57)) o hb B.hml hown hts rfl (by decide) (T_X12_byteAt g.l o.hl g.D g.cA h.2) (cwV 1 hts gX12_tableGoal_X12_byteAt rfl rfl rfl (by decide +kernel) ⟨yle B.hR1 rfl, yle B.hR2 rfl⟩) h.1 rfl rfl (Nat.le_of_ble_eq_true rfl) dX12_tableGoal_190) (fun v33 x32 h => ?_)
            refine k_bipush (v := 41) o hb dX12_tableGoal_193 (by decide) ?_
            refine wJoin_elim (M := fun K => ∀  (x35 : HS), K  x35 → KW g 8 214 [(0, .q l0)] [] x35) h ?_ (fun j34 hj34 h => ?_)
            · skip
              intro  x35 h
              refine k_aload_n o hb dX12_tableGoal_214 rfl 0 rfl ?_
              refine k_aload_n o hb dX12_tableGoal_215 rfl 0 rfl ?_
              refine k_getI (C := RX12) (T := TX12) (N := 57) o hb hts in12 hown rfl (by decide) 41 (by decide) rfl (hts (.fieldLink RX12 244 "FactKeeperModel" "at" "I") (by decide +kernel)) (fun _ h9 => h9) dX12_tableGoal_216 h (fun v36 h => ?_)
              refine k_run_i o (fun _ _ q => q) (k_runV (ci := 12) (rc := (RX12, TX12, 57)) o hb B.hml hown hts rfl (by decide) (T_X12_wrong g.l o.hl g.D g.cA h.2) (cwV 1 hts gX12_tableGoal_X12_wrong rfl rfl rfl (by decide +kernel) ⟨yle B.hR1 rfl, yle B.hR2 rfl⟩) h.1 rfl rfl (Nat.le_of_ble_eq_true rfl) dX12_tableGoal_219) (fun v38 x37 h => ?_)
              exact k_zret o hb B.hr fr dX12_tableGoal_222 h
            · skip
              refine k_icmp_ne (tgt := 214) o hb dX12_tableGoal_195 (by decide) h (fun h => ?_) (fun h => ?_)
              · skip
                refine k_iload o hb dX12_tableGoal_198 2 rfl ?_
                refine k_aload_n o hb dX12_tableGoal_200 rfl 0 rfl ?_
                refine k_getF (C := RX12) (T := TX12) (N := 57) o hb hts in12 hown rfl (by decide) 4 (by decide) rfl (hts (.fieldLink RX12 21 "FactKeeperModel" "columns" "[I") (by decide +kernel)) (fun _ h9 => h9) dX12_tableGoal_201 h (fun v39 h => ?_)
                refine k_aload_n o hb dX12_tableGoal_204 rfl 0 rfl ?_
                refine k_getF (C := RX12) (T := TX12) (N := 57) o hb hts in12 hown rfl (by decide) 45 (by decide) rfl (hts (.fieldLink RX12 106 "FactKeeperModel" "goalTable" "[I") (by decide +kernel)) (fun _ h9 => h9) dX12_tableGoal_205 h (fun v40 h => ?_)
                refine k_iload_n o hb dX12_tableGoal_208 rfl 1 rfl ?_
                refine k_iald o hb dX12_tableGoal_209 h (fun v41 h => ?_)
                refine k_iald o hb dX12_tableGoal_210 h (fun v42 h => ?_)
                refine k_icmp_ge (tgt := 223) o hb dX12_tableGoal_211 (by decide) h (fun h => ?_) (fun h => ?_)
                · skip
                  refine k_aload_n o hb dX12_tableGoal_223 rfl 0 rfl ?_
                  refine k_dup o hb dX12_tableGoal_224 ?_
                  refine k_getI (C := RX12) (T := TX12) (N := 57) o hb hts in12 hown rfl (by decide) 41 (by decide) rfl (hts (.fieldLink RX12 244 "FactKeeperModel" "at" "I") (by decide +kernel)) (fun _ h9 => h9) dX12_tableGoal_225 h (fun v43 h => ?_)
                  refine k_iconst (v := 1) o hb dX12_tableGoal_228 (by decide) ?_
                  refine k_iadd o hb dX12_tableGoal_229 ?_
                  refine k_putI (C := RX12) (T := TX12) (N := 57) (ty := .int) o hb hts in12 tyX12 tyX12_ok nmX12 hown rfl (by decide) 41 (by decide) rfl (hts (.fieldLink RX12 244 "FactKeeperModel" "at" "I") (by decide +kernel)) (fun _ h9 => h9) rfl (by decide +kernel) (fun _ => rfl) (fun _ => rfl) dX12_tableGoal_230 h (fun x44 h => ?_)
                  refine k_aload_n o hb dX12_tableGoal_233 rfl 0 rfl ?_
                  refine k_getF (C := RX12) (T := TX12) (N := 57) o hb hts in12 hown rfl (by decide) 48 (by decide) rfl (hts (.fieldLink RX12 115 "FactKeeperModel" "known" "[I") (by decide +kernel)) (fun _ h9 => h9) dX12_tableGoal_234 h (fun v45 h => ?_)
                  refine k_iload_n o hb dX12_tableGoal_237 rfl 1 rfl ?_
                  refine k_iconst (v := 1) o hb dX12_tableGoal_238 (by decide) ?_
                  refine k_iadd o hb dX12_tableGoal_239 ?_
                  refine k_aload_n o hb dX12_tableGoal_240 rfl 0 rfl ?_
                  refine k_getF (C := RX12) (T := TX12) (N := 57) o hb hts in12 hown rfl (by decide) 48 (by decide) rfl (hts (.fieldLink RX12 115 "FactKeeperModel" "known" "[I") (by decide +kernel)) (fun _ h9 => h9) dX12_tableGoal_241 h (fun v46 h => ?_)
                  refine k_iload_n o hb dX12_tableGoal_244 rfl 1 rfl ?_
                  refine k_iald o hb dX12_tableGoal_245 h (fun v47 h => ?_)
                  refine k_iast o hb dX12_tableGoal_246 h (fun x48 h => ?_)
                  refine k_iconst (v := 0) o hb dX12_tableGoal_247 (by decide) ?_
                  refine k_istore o hb dX12_tableGoal_248 rfl ?_
                  refine KW.sub [1, 2, 3, 0] rfl ?_
                  refine wLoop_elim (M := fun (v52 : Int32) (x51 : HS) => KW g 8 250 [(0, .q l0), (1, .i l1), (5, .i v28.1), (7, .i v52)] [] x51) h ?_
                  intro v52 x51 again49 ih50 h
                  refine k_iload o hb dX12_tableGoal_250 3 rfl ?_
                  refine k_iload o hb dX12_tableGoal_252 2 rfl ?_
                  refine wJoin_elim (M := fun K => ∀  (x54 : HS), K  x54 → KW g 8 311 [] [] x54) h ?_ (fun j53 hj53 h => ?_)
                  · skip
                    intro  x54 h
                    refine k_iconst (v := 1) o hb dX12_tableGoal_311 (by decide) ?_
                    exact k_zret o hb B.hr fr dX12_tableGoal_312 h
                  · skip
                    refine k_icmp_ge (tgt := 311) o hb dX12_tableGoal_254 (by decide) h (fun h => ?_) (fun h => ?_)
                    · skip
                      exact KW.sub [] rfl (hj53 x51 h)
                    · skip
                      refine k_aload_n o hb dX12_tableGoal_257 rfl 0 rfl ?_
                      refine k_getF (C := RX12) (T := TX12) (N := 57) o hb hts in12 hown rfl (by decide) 44 (by decide) rfl (hts (.fieldLink RX12 103 "FactKeeperModel" "goal" "[I") (by decide +kernel)) (fun _ h9 => h9) dX12_tableGoal_258 h (fun v55 h => ?_)
                      refine k_iload_n o hb dX12_tableGoal_261 rfl 1 rfl ?_
                      refine k_iald o hb dX12_tableGoal_262 h (fun v56 h => ?_)
                      refine k_if_ne (tgt := 311) o hb dX12_tableGoal_263 (by decide) h (fun h => ?_) (fun h => ?_)
                      · skip
                        refine k_aload_n o hb dX12_tableGoal_266 rfl 0 rfl ?_
                        refine k_getF (C := RX12) (T := TX12) (N := 57) o hb hts in12 hown rfl (by decide) 46 (by decide) rfl (hts (.fieldLink RX12 109 "FactKeeperModel" "sort" "[I") (by decide +kernel)) (fun _ h9 => h9) dX12_tableGoal_267 h (fun v57 h => ?_)
                        refine k_iconst (v := 5) o hb dX12_tableGoal_270 (by decide) ?_
                        refine k_iload_n o hb dX12_tableGoal_271 rfl 1 rfl ?_
                        refine k_imul o hb dX12_tableGoal_272 ?_
                        refine k_iload o hb dX12_tableGoal_273 3 rfl ?_
                        refine k_iadd o hb dX12_tableGoal_275 ?_
                        refine k_iald o hb dX12_tableGoal_276 h (fun v58 h => ?_)
                        refine k_iconst (v := 1) o hb dX12_tableGoal_277 (by decide) ?_
                        refine wJoin_elim (M := fun K => ∀  (x60 : HS), K  x60 → KW g 8 305 [(0, .q l0), (1, .i l1), (5, .i v28.1), (7, .i v52)] [] x60) h ?_ (fun j59 hj59 h => ?_)
                        · skip
                          intro  x60 h
                          refine k_iinc (w := 1) o hb dX12_tableGoal_305 3 rfl (by decide) rfl ?_
                          refine k_goto (tgt := 250) o hb dX12_tableGoal_308 (by decide) ?_
                          exact KW.sub [1, 2, 3, 0] rfl (ih50 (v52 + 1) x60 h)
                        · skip
                          refine k_icmp_ne (tgt := 305) o hb dX12_tableGoal_278 (by decide) h (fun h => ?_) (fun h => ?_)
                          · skip
                            refine k_aload_n o hb dX12_tableGoal_281 rfl 0 rfl ?_
                            refine k_getF (C := RX12) (T := TX12) (N := 57) o hb hts in12 hown rfl (by decide) 48 (by decide) rfl (hts (.fieldLink RX12 115 "FactKeeperModel" "known" "[I") (by decide +kernel)) (fun _ h9 => h9) dX12_tableGoal_282 h (fun v61 h => ?_)
                            refine k_iload_n o hb dX12_tableGoal_285 rfl 1 rfl ?_
                            refine k_iconst (v := 1) o hb dX12_tableGoal_286 (by decide) ?_
                            refine k_iadd o hb dX12_tableGoal_287 ?_
                            refine k_dup2 o hb dX12_tableGoal_288 ?_
                            refine k_iald o hb dX12_tableGoal_289 h (fun v62 h => ?_)
                            refine k_iconst (v := 1) o hb dX12_tableGoal_290 (by decide) ?_
                            refine k_aload_n o hb dX12_tableGoal_291 rfl 0 rfl ?_
                            refine k_getF (C := RX12) (T := TX12) (N := 57) o hb hts in12 hown rfl (by decide) 47 (by decide) rfl (hts (.fieldLink RX12 112 "FactKeeperModel" "argument" "[I") (by decide +kernel)) (fun _ h9 => h9) dX12_tableGoal_292 h (fun v63 h => ?_)
                            refine k_iconst (v := 5) o hb dX12_tableGoal_295 (by decide) ?_
                            refine k_iload_n o hb dX12_tableGoal_296 rfl 1 rfl ?_
                            refine k_imul o hb dX12_tableGoal_297 ?_
                            refine k_iload o hb dX12_tableGoal_298 3 rfl ?_
                            refine k_iadd o hb dX12_tableGoal_300 ?_
                            refine k_iald o hb dX12_tableGoal_301 h (fun v64 h => ?_)
                            refine k_ishl o hb dX12_tableGoal_302 ?_
                            refine k_ior o hb dX12_tableGoal_303 ?_
                            refine k_iast o hb dX12_tableGoal_304 h (fun x65 h => ?_)
                            exact KW.sub [0, 1, 2, 3] rfl (hj59 x65 h)
                          · skip
                            exact KW.sub [0, 1, 2, 3] rfl (hj59 x51 h)
                      · skip
                        exact KW.sub [] rfl (hj53 x51 h)
                · skip
                  exact KW.sub [0] rfl (hj34 x32 h)
              · skip
                exact KW.sub [0] rfl (hj34 x32 h)
          · skip
            refine k_aload_n o hb dX12_tableGoal_111 rfl 0 rfl ?_
            refine k_run_v o (fun _ _ q => q) (k_runV (ci := 12) (rc := (RX12, TX12, 57)) o hb B.hml hown hts rfl (by decide) (T_X12_blanks g.l o.hl g.D g.cA h.2) (cwV 0 hts gX12_tableGoal_X12_blanks rfl rfl rfl (by decide +kernel) ⟨yle B.hR1 rfl, yle B.hR2 rfl⟩) h.1 rfl rfl (Nat.le_of_ble_eq_true rfl) dX12_tableGoal_112) (fun x66 h => ?_)
            refine k_iload o hb dX12_tableGoal_115 2 rfl ?_
            refine k_aload_n o hb dX12_tableGoal_117 rfl 0 rfl ?_
            refine k_getF (C := RX12) (T := TX12) (N := 57) o hb hts in12 hown rfl (by decide) 4 (by decide) rfl (hts (.fieldLink RX12 21 "FactKeeperModel" "columns" "[I") (by decide +kernel)) (fun _ h9 => h9) dX12_tableGoal_118 h (fun v68 h => ?_)
            refine k_aload_n o hb dX12_tableGoal_121 rfl 0 rfl ?_
            refine k_getF (C := RX12) (T := TX12) (N := 57) o hb hts in12 hown rfl (by decide) 45 (by decide) rfl (hts (.fieldLink RX12 106 "FactKeeperModel" "goalTable" "[I") (by decide +kernel)) (fun _ h9 => h9) dX12_tableGoal_122 h (fun v69 h => ?_)
            refine k_iload_n o hb dX12_tableGoal_125 rfl 1 rfl ?_
            refine k_iald o hb dX12_tableGoal_126 h (fun v70 h => ?_)
            refine k_iald o hb dX12_tableGoal_127 h (fun v71 h => ?_)
            refine k_icmp_ne (tgt := 140) o hb dX12_tableGoal_128 (by decide) h (fun h => ?_) (fun h => ?_)
            · skip
              refine k_aload_n o hb dX12_tableGoal_131 rfl 0 rfl ?_
              refine k_aload_n o hb dX12_tableGoal_132 rfl 0 rfl ?_
              refine k_getI (C := RX12) (T := TX12) (N := 57) o hb hts in12 hown rfl (by decide) 41 (by decide) rfl (hts (.fieldLink RX12 244 "FactKeeperModel" "at" "I") (by decide +kernel)) (fun _ h9 => h9) dX12_tableGoal_133 h (fun v72 h => ?_)
              refine k_run_i o (fun _ _ q => q) (k_runV (ci := 12) (rc := (RX12, TX12, 57)) o hb B.hml hown hts rfl (by decide) (T_X12_wrong g.l o.hl g.D g.cA h.2) (cwV 1 hts gX12_tableGoal_X12_wrong rfl rfl rfl (by decide +kernel) ⟨yle B.hR1 rfl, yle B.hR2 rfl⟩) h.1 rfl rfl (Nat.le_of_ble_eq_true rfl) dX12_tableGoal_136) (fun v74 x73 h => ?_)
              exact k_zret o hb B.hr fr dX12_tableGoal_139 h
            · skip
              refine k_aload_n o hb dX12_tableGoal_140 rfl 0 rfl ?_
              refine k_getI (C := RX12) (T := TX12) (N := 57) o hb hts in12 hown rfl (by decide) 41 (by decide) rfl (hts (.fieldLink RX12 244 "FactKeeperModel" "at" "I") (by decide +kernel)) (fun _ h9 => h9) dX12_tableGoal_141 h (fun v75 h => ?_)
              refine k_istore o hb dX12_tableGoal_144 rfl ?_
              refine k_aload_n o hb dX12_tableGoal_146 rfl 1 rfl ?_
              refine k_iconst (v := 5) o hb dX12_tableGoal_147 (by decide) ?_
              refine k_iload_n o hb dX12_tableGoal_148 rfl 2 rfl ?_
              refine k_imul o hb dX12_tableGoal_149 ?_
              refine k_iload o hb dX12_tableGoal_150 3 rfl ?_
              refine k_iadd o hb dX12_tableGoal_152 ?_
              refine k_iconst (v := 1) o hb dX12_tableGoal_153 (by decide) ?_
              refine k_run_i o (fun _ _ q => q) (k_runV (ci := 12) (rc := (RX12, TX12, 57)) o hb B.hml hown hts rfl (by decide) (T_X12_argument g.l o.hl g.D g.cA h.2) (cwV 2 hts gX12_tableGoal_X12_argument rfl rfl rfl (by decide +kernel) ⟨yle B.hR1 rfl, yle B.hR2 rfl⟩) h.1 rfl rfl (Nat.le_of_ble_eq_true rfl) dX12_tableGoal_154) (fun v77 x76 h => ?_)
              refine k_if_ne (tgt := 167) o hb dX12_tableGoal_157 (by decide) h (fun h => ?_) (fun h => ?_)
              · skip
                refine k_aload_n o hb dX12_tableGoal_160 rfl 1 rfl ?_
                refine k_iload o hb dX12_tableGoal_161 0 rfl ?_
                refine k_run_i o (fun _ _ q => q) (k_runV (ci := 12) (rc := (RX12, TX12, 57)) o hb B.hml hown hts rfl (by decide) (T_X12_wrong g.l o.hl g.D g.cA h.2) (cwV 1 hts gX12_tableGoal_X12_wrong rfl rfl rfl (by decide +kernel) ⟨yle B.hR1 rfl, yle B.hR2 rfl⟩) h.1 rfl rfl (Nat.le_of_ble_eq_true rfl) dX12_tableGoal_163) (fun v79 x78 h => ?_)
                exact k_zret o hb B.hr fr dX12_tableGoal_166 h
              · skip
                refine k_iinc (w := 1) o hb dX12_tableGoal_167 3 rfl (by decide) rfl ?_
                refine k_aload_n o hb dX12_tableGoal_170 rfl 2 rfl ?_
                refine k_bipush (v := 44) o hb dX12_tableGoal_171 (by decide) ?_
                refine k_run_i o (fun _ _ q => q) (k_runV (ci := 12) (rc := (RX12, TX12, 57)) o hb B.hml hown hts rfl (by decide) (T_X12_take g.l o.hl g.D g.cA h.2) (cwV 1 hts gX12_tableGoal_X12_take rfl rfl rfl (by decide +kernel) ⟨yle B.hR1 rfl, yle B.hR2 rfl⟩) h.1 rfl rfl (Nat.le_of_ble_eq_true rfl) dX12_tableGoal_173) (fun v81 x80 h => ?_)
                refine k_istore o hb dX12_tableGoal_176 rfl ?_
                refine k_goto (tgt := 106) o hb dX12_tableGoal_178 (by decide) ?_
                exact KW.sub [3, 4, 1, 0] rfl (ih26 ((v28.1 + 1), v81) x80 h)
    · skip
      refine k_aload_n o hb dX12_tableGoal_43 rfl 2 rfl ?_
      refine k_iload_n o hb dX12_tableGoal_44 rfl 1 rfl ?_
      refine k_run_i o (fun _ _ q => q) (k_runV (ci := 12) (rc := (RX12, TX12, 57)) o hb B.hml hown hts rfl (by decide) (T_X12_wrong g.l o.hl g.D g.cA h.2) (cwV 1 hts gX12_tableGoal_X12_wrong rfl rfl rfl (by decide +kernel) ⟨yle B.hR1 rfl, yle B.hR2 rfl⟩) h.1 rfl rfl (Nat.le_of_ble_eq_true rfl) dX12_tableGoal_45) (fun v83 x82 h => ?_)
      exact k_zret o hb B.hr fr dX12_tableGoal_48 h
theorem dX12_knownArgument_0 : decode cX12_knownArgument 0 = .ok (.aload_n 0, 1) := by decide +kernel
theorem dX12_knownArgument_1 : decode cX12_knownArgument 1 = .ok (.invokevirtual 250, 3) := by decide +kernel
theorem dX12_knownArgument_4 : decode cX12_knownArgument 4 = .ok (.aload_n 0, 1) := by decide +kernel
theorem dX12_knownArgument_5 : decode cX12_knownArgument 5 = .ok (.getfield 244, 3) := by decide +kernel
theorem dX12_knownArgument_8 : decode cX12_knownArgument 8 = .ok (.istore_n 3, 1) := by decide +kernel
theorem dX12_knownArgument_9 : decode cX12_knownArgument 9 = .ok (.aload_n 0, 1) := by decide +kernel
theorem dX12_knownArgument_10 : decode cX12_knownArgument 10 = .ok (.iload_n 2, 1) := by decide +kernel
theorem dX12_knownArgument_11 : decode cX12_knownArgument 11 = .ok (.iconst 0, 1) := by decide +kernel
theorem dX12_knownArgument_12 : decode cX12_knownArgument 12 = .ok (.invokevirtual 272, 3) := by decide +kernel
theorem dX12_knownArgument_15 : decode cX12_knownArgument 15 = .ok (.ifCond .eq 12, 3) := by decide +kernel
theorem dX12_knownArgument_18 : decode cX12_knownArgument 18 = .ok (.aload_n 0, 1) := by decide +kernel
theorem dX12_knownArgument_19 : decode cX12_knownArgument 19 = .ok (.iload_n 1, 1) := by decide +kernel
theorem dX12_knownArgument_20 : decode cX12_knownArgument 20 = .ok (.iload_n 2, 1) := by decide +kernel
theorem dX12_knownArgument_21 : decode cX12_knownArgument 21 = .ok (.invokevirtual 275, 3) := by decide +kernel
theorem dX12_knownArgument_24 : decode cX12_knownArgument 24 = .ok (.ifCond .ne 9, 3) := by decide +kernel
theorem dX12_knownArgument_27 : decode cX12_knownArgument 27 = .ok (.aload_n 0, 1) := by decide +kernel
theorem dX12_knownArgument_28 : decode cX12_knownArgument 28 = .ok (.iload_n 3, 1) := by decide +kernel
theorem dX12_knownArgument_29 : decode cX12_knownArgument 29 = .ok (.invokevirtual 266, 3) := by decide +kernel
theorem dX12_knownArgument_32 : decode cX12_knownArgument 32 = .ok (.ireturn, 1) := by decide +kernel
theorem dX12_knownArgument_33 : decode cX12_knownArgument 33 = .ok (.iconst 1, 1) := by decide +kernel
theorem dX12_knownArgument_34 : decode cX12_knownArgument 34 = .ok (.ireturn, 1) := by decide +kernel
theorem i9wsX12_knownArgument_0 : ∀ w ∈ wsX12_knownArgument_r1, w ∈ wsX12_knownArgument := fun _ h => (List.mem_cons_of_mem _ (List.mem_append_left _ (List.mem_append_left _ h)))
theorem i9wsX12_knownArgument_2 : ∀ w ∈ wsX120, w ∈ wsX12_knownArgument := fun _ h => (List.mem_cons_of_mem _ (List.mem_append_right _ h))
set_option maxRecDepth 20000 in
theorem ggX12_knownArgument_X12_blanks : GoodIn wsX12_knownArgument wsX12_blanks := (gin_c (mem_at i9wsX12_knownArgument_0 5 rfl) rfl (goodIn_app (gin_c (mem_at i9wsX12_knownArgument_0 0 rfl) rfl (gin_c (mem_at i9wsX12_knownArgument_0 6 rfl) rfl (gin_c (mem_at i9wsX12_knownArgument_0 7 rfl) rfl (gin_c (mem_at i9wsX12_knownArgument_0 8 rfl) rfl (gin_c (mem_at i9wsX12_knownArgument_0 4 rfl) rfl (gin_c (mem_at i9wsX12_knownArgument_0 9 rfl) rfl (gin_c (mem_at i9wsX12_knownArgument_0 10 rfl) rfl (gin_c (mem_at i9wsX12_knownArgument_0 11 rfl) rfl gin_n)))))))) (goodIn_sub i9wsX12_knownArgument_2 g9_16)))
set_option maxRecDepth 20000 in
theorem gX12_knownArgument_X12_blanks : GoodIn wsX12_knownArgument (wsV RX12 250 RX12 yX12_blanks wsX12_blanks) := goodIn_app (gin_c (mem_at i9wsX12_knownArgument_0 1 rfl) rfl (gin_c (mem_at i9wsX12_knownArgument_0 2 rfl) rfl (gin_c (mem_at i9wsX12_knownArgument_0 3 rfl) rfl (gin_c (mem_at i9wsX12_knownArgument_0 4 rfl) rfl gin_n)))) ggX12_knownArgument_X12_blanks
theorem i9wsX12_knownArgument_1 : ∀ w ∈ wsX12_knownArgument_r2, w ∈ wsX12_knownArgument := fun _ h => (List.mem_cons_of_mem _ (List.mem_append_left _ (List.mem_append_right _ h)))
set_option maxRecDepth 20000 in
theorem ggX12_knownArgument_X12_argument : GoodIn wsX12_knownArgument wsX12_argument := (gin_c (mem_at i9wsX12_knownArgument_0 15 rfl) rfl (goodIn_app (goodIn_app (gin_c (mem_at i9wsX12_knownArgument_0 0 rfl) rfl (gin_c (mem_at i9wsX12_knownArgument_0 16 rfl) rfl (gin_c (mem_at i9wsX12_knownArgument_0 17 rfl) rfl (gin_c (mem_at i9wsX12_knownArgument_0 18 rfl) rfl (gin_c (mem_at i9wsX12_knownArgument_0 1 rfl) rfl (gin_c (mem_at i9wsX12_knownArgument_0 2 rfl) rfl (gin_c (mem_at i9wsX12_knownArgument_0 3 rfl) rfl (gin_c (mem_at i9wsX12_knownArgument_0 4 rfl) rfl (gin_c (mem_at i9wsX12_knownArgument_0 5 rfl) rfl (gin_c (mem_at i9wsX12_knownArgument_0 6 rfl) rfl (gin_c (mem_at i9wsX12_knownArgument_0 7 rfl) rfl (gin_c (mem_at i9wsX12_knownArgument_0 8 rfl) rfl (gin_c (mem_at i9wsX12_knownArgument_0 9 rfl) rfl (gin_c (mem_at i9wsX12_knownArgument_0 10 rfl) rfl (gin_c (mem_at i9wsX12_knownArgument_0 11 rfl) rfl (gin_c (mem_at i9wsX12_knownArgument_0 19 rfl) rfl (gin_c (mem_at i9wsX12_knownArgument_0 20 rfl) rfl (gin_c (mem_at i9wsX12_knownArgument_0 21 rfl) rfl (gin_c (mem_at i9wsX12_knownArgument_0 22 rfl) rfl (gin_c (mem_at i9wsX12_knownArgument_0 23 rfl) rfl (gin_c (mem_at i9wsX12_knownArgument_1 0 rfl) rfl (gin_c (mem_at i9wsX12_knownArgument_1 1 rfl) rfl (gin_c (mem_at i9wsX12_knownArgument_1 2 rfl) rfl (gin_c (mem_at i9wsX12_knownArgument_1 3 rfl) rfl gin_n)))))))))))))))))))))))) (gin_c (mem_at i9wsX12_knownArgument_1 4 rfl) rfl (gin_c (mem_at i9wsX12_knownArgument_1 5 rfl) rfl (gin_c (mem_at i9wsX12_knownArgument_1 6 rfl) rfl gin_n)))) (goodIn_sub i9wsX12_knownArgument_2 g9_16)))
set_option maxRecDepth 20000 in
theorem gX12_knownArgument_X12_argument : GoodIn wsX12_knownArgument (wsV RX12 272 RX12 yX12_argument wsX12_argument) := goodIn_app (gin_c (mem_at i9wsX12_knownArgument_0 12 rfl) rfl (gin_c (mem_at i9wsX12_knownArgument_0 13 rfl) rfl (gin_c (mem_at i9wsX12_knownArgument_0 14 rfl) rfl (gin_c (mem_at i9wsX12_knownArgument_0 4 rfl) rfl gin_n)))) ggX12_knownArgument_X12_argument
set_option maxRecDepth 20000 in
theorem ggX12_knownArgument_X12_isKnown : GoodIn wsX12_knownArgument wsX12_isKnown := (gin_c (mem_at i9wsX12_knownArgument_1 10 rfl) rfl (goodIn_app (gin_c (mem_at i9wsX12_knownArgument_0 16 rfl) rfl (gin_c (mem_at i9wsX12_knownArgument_1 11 rfl) rfl (gin_c (mem_at i9wsX12_knownArgument_0 17 rfl) rfl gin_n))) (goodIn_sub i9wsX12_knownArgument_2 g9_16)))
set_option maxRecDepth 20000 in
theorem gX12_knownArgument_X12_isKnown : GoodIn wsX12_knownArgument (wsV RX12 275 RX12 yX12_isKnown wsX12_isKnown) := goodIn_app (gin_c (mem_at i9wsX12_knownArgument_1 7 rfl) rfl (gin_c (mem_at i9wsX12_knownArgument_1 8 rfl) rfl (gin_c (mem_at i9wsX12_knownArgument_1 9 rfl) rfl (gin_c (mem_at i9wsX12_knownArgument_0 4 rfl) rfl gin_n)))) ggX12_knownArgument_X12_isKnown
set_option maxRecDepth 20000 in
theorem ggX12_knownArgument_X12_wrong : GoodIn wsX12_knownArgument wsX12_wrong := (gin_c (mem_at i9wsX12_knownArgument_1 15 rfl) rfl (goodIn_app (gin_c (mem_at i9wsX12_knownArgument_0 10 rfl) rfl (gin_c (mem_at i9wsX12_knownArgument_1 16 rfl) rfl gin_n)) (goodIn_sub i9wsX12_knownArgument_2 g9_16)))
set_option maxRecDepth 20000 in
theorem gX12_knownArgument_X12_wrong : GoodIn wsX12_knownArgument (wsV RX12 266 RX12 yX12_wrong wsX12_wrong) := goodIn_app (gin_c (mem_at i9wsX12_knownArgument_1 12 rfl) rfl (gin_c (mem_at i9wsX12_knownArgument_1 13 rfl) rfl (gin_c (mem_at i9wsX12_knownArgument_1 14 rfl) rfl (gin_c (mem_at i9wsX12_knownArgument_0 4 rfl) rfl gin_n)))) ggX12_knownArgument_X12_wrong
set_option maxHeartbeats 4000000 in
set_option maxRecDepth 100000 in
theorem T_X12_knownArgument (l : Launch) (hl : l.stackTraces = false) (D : va_G) (cA : Nat → ClassId) {l0 : Option Nat} {l1 : Int32} {l2 : Int32} {x : HS} {Q : Int32 → HS → Prop} {X : String → HS → Prop} (h : w_X12_knownArgument l0 l1 l2 x Q X) : YI l yX12_knownArgument wsX12_knownArgument 4 91 D cA [.q l0, .i l1, .i l2] x Q X := by
  refine YI.of (cc := cX12_knownArgument) (maxL := 4) (ret := (some .boolean)) hl (by decide) rfl rfl (fun g B fr => ?_)
  have o := B.o
  have hb := B.hb
  have hts := B.hts
  have hown : g.s.vm.findClass RX12 = some g.m.cls := B.hown
  have in12 : ∀ w ∈ u_ws RX12 TX12 57, w ∈ wsX12_knownArgument := fun w h => (List.mem_cons_of_mem _ (List.mem_append_right _ h))
  unfold w_X12_knownArgument at h
  show KW g 4 0 [(0, .q l0), (1, .i l1), (2, .i l2)] [] x
  refine k_aload_n o hb dX12_knownArgument_0 rfl 0 rfl ?_
  refine k_run_v o (fun _ _ q => q) (k_runV (ci := 12) (rc := (RX12, TX12, 57)) o hb B.hml hown hts rfl (by decide) (T_X12_blanks g.l o.hl g.D g.cA h.2) (cwV 0 hts gX12_knownArgument_X12_blanks rfl rfl rfl (by decide +kernel) ⟨yle B.hR1 rfl, yle B.hR2 rfl⟩) h.1 rfl rfl (Nat.le_of_ble_eq_true rfl) dX12_knownArgument_1) (fun x1 h => ?_)
  refine k_aload_n o hb dX12_knownArgument_4 rfl 0 rfl ?_
  refine k_getI (C := RX12) (T := TX12) (N := 57) o hb hts in12 hown rfl (by decide) 41 (by decide) rfl (hts (.fieldLink RX12 244 "FactKeeperModel" "at" "I") (by decide +kernel)) (fun _ h9 => h9) dX12_knownArgument_5 h (fun v3 h => ?_)
  refine k_istore_n o hb dX12_knownArgument_8 rfl rfl ?_
  refine k_aload_n o hb dX12_knownArgument_9 rfl 1 rfl ?_
  refine k_iload_n o hb dX12_knownArgument_10 rfl 3 rfl ?_
  refine k_iconst (v := 0) o hb dX12_knownArgument_11 (by decide) ?_
  refine k_run_i o (fun _ _ q => q) (k_runV (ci := 12) (rc := (RX12, TX12, 57)) o hb B.hml hown hts rfl (by decide) (T_X12_argument g.l o.hl g.D g.cA h.2) (cwV 2 hts gX12_knownArgument_X12_argument rfl rfl rfl (by decide +kernel) ⟨yle B.hR1 rfl, yle B.hR2 rfl⟩) h.1 rfl rfl (Nat.le_of_ble_eq_true rfl) dX12_knownArgument_12) (fun v5 x4 h => ?_)
  refine wJoin_elim (M := fun K => ∀  (x7 : HS), K  x7 → KW g 4 27 [(0, .q l0), (3, .i v3)] [] x7) h ?_ (fun j6 hj6 h => ?_)
  · skip
    intro  x7 h
    refine k_aload_n o hb dX12_knownArgument_27 rfl 0 rfl ?_
    refine k_iload_n o hb dX12_knownArgument_28 rfl 1 rfl ?_
    refine k_run_i o (fun _ _ q => q) (k_runV (ci := 12) (rc := (RX12, TX12, 57)) o hb B.hml hown hts rfl (by decide) (T_X12_wrong g.l o.hl g.D g.cA h.2) (cwV 1 hts gX12_knownArgument_X12_wrong rfl rfl rfl (by decide +kernel) ⟨yle B.hR1 rfl, yle B.hR2 rfl⟩) h.1 rfl rfl (Nat.le_of_ble_eq_true rfl) dX12_knownArgument_29) (fun v9 x8 h => ?_)
    exact k_zret o hb B.hr fr dX12_knownArgument_32 h
  · skip
    refine k_if_eq (tgt := 27) o hb dX12_knownArgument_15 (by decide) h (fun h => ?_) (fun h => ?_)
    · skip
      exact KW.sub [1, 0] rfl (hj6 x4 h)
    · skip
      refine k_aload_n o hb dX12_knownArgument_18 rfl 1 rfl ?_
      refine k_iload_n o hb dX12_knownArgument_19 rfl 2 rfl ?_
      refine k_iload_n o hb dX12_knownArgument_20 rfl 3 rfl ?_
      refine k_run_i o (fun _ _ q => q) (k_runV (ci := 12) (rc := (RX12, TX12, 57)) o hb B.hml hown hts rfl (by decide) (T_X12_isKnown g.l o.hl g.D g.cA h.2) (cwV 2 hts gX12_knownArgument_X12_isKnown rfl rfl rfl (by decide +kernel) ⟨yle B.hR1 rfl, yle B.hR2 rfl⟩) h.1 rfl rfl (Nat.le_of_ble_eq_true rfl) dX12_knownArgument_21) (fun v11 x10 h => ?_)
      refine k_if_ne (tgt := 33) o hb dX12_knownArgument_24 (by decide) h (fun h => ?_) (fun h => ?_)
      · skip
        exact KW.sub [1, 0] rfl (hj6 x10 h)
      · skip
        refine k_iconst (v := 1) o hb dX12_knownArgument_33 (by decide) ?_
        exact k_zret o hb B.hr fr dX12_knownArgument_34 h
theorem dX12_otherGoal_0 : decode cX12_otherGoal 0 = .ok (.aload_n 0, 1) := by decide +kernel
theorem dX12_otherGoal_1 : decode cX12_otherGoal 1 = .ok (.getfield 244, 3) := by decide +kernel
theorem dX12_otherGoal_4 : decode cX12_otherGoal 4 = .ok (.istore_n 2, 1) := by decide +kernel
theorem dX12_otherGoal_5 : decode cX12_otherGoal 5 = .ok (.aload_n 0, 1) := by decide +kernel
theorem dX12_otherGoal_6 : decode cX12_otherGoal 6 = .ok (.iconst 5, 1) := by decide +kernel
theorem dX12_otherGoal_7 : decode cX12_otherGoal 7 = .ok (.iload_n 1, 1) := by decide +kernel
theorem dX12_otherGoal_8 : decode cX12_otherGoal 8 = .ok (.imul, 1) := by decide +kernel
theorem dX12_otherGoal_9 : decode cX12_otherGoal 9 = .ok (.iconst 0, 1) := by decide +kernel
theorem dX12_otherGoal_10 : decode cX12_otherGoal 10 = .ok (.invokevirtual 272, 3) := by decide +kernel
theorem dX12_otherGoal_13 : decode cX12_otherGoal 13 = .ok (.ifCond .ne 9, 3) := by decide +kernel
theorem dX12_otherGoal_16 : decode cX12_otherGoal 16 = .ok (.aload_n 0, 1) := by decide +kernel
theorem dX12_otherGoal_17 : decode cX12_otherGoal 17 = .ok (.iload_n 2, 1) := by decide +kernel
theorem dX12_otherGoal_18 : decode cX12_otherGoal 18 = .ok (.invokevirtual 266, 3) := by decide +kernel
theorem dX12_otherGoal_21 : decode cX12_otherGoal 21 = .ok (.ireturn, 1) := by decide +kernel
theorem dX12_otherGoal_22 : decode cX12_otherGoal 22 = .ok (.aload_n 0, 1) := by decide +kernel
theorem dX12_otherGoal_23 : decode cX12_otherGoal 23 = .ok (.getfield 115, 3) := by decide +kernel
theorem dX12_otherGoal_26 : decode cX12_otherGoal 26 = .ok (.iload_n 1, 1) := by decide +kernel
theorem dX12_otherGoal_27 : decode cX12_otherGoal 27 = .ok (.iconst 1, 1) := by decide +kernel
theorem dX12_otherGoal_28 : decode cX12_otherGoal 28 = .ok (.iadd, 1) := by decide +kernel
theorem dX12_otherGoal_29 : decode cX12_otherGoal 29 = .ok (.aload_n 0, 1) := by decide +kernel
theorem dX12_otherGoal_30 : decode cX12_otherGoal 30 = .ok (.getfield 115, 3) := by decide +kernel
theorem dX12_otherGoal_33 : decode cX12_otherGoal 33 = .ok (.iload_n 1, 1) := by decide +kernel
theorem dX12_otherGoal_34 : decode cX12_otherGoal 34 = .ok (.iaload, 1) := by decide +kernel
theorem dX12_otherGoal_35 : decode cX12_otherGoal 35 = .ok (.iastore, 1) := by decide +kernel
theorem dX12_otherGoal_36 : decode cX12_otherGoal 36 = .ok (.aload_n 0, 1) := by decide +kernel
theorem dX12_otherGoal_37 : decode cX12_otherGoal 37 = .ok (.invokevirtual 250, 3) := by decide +kernel
theorem dX12_otherGoal_40 : decode cX12_otherGoal 40 = .ok (.aload_n 0, 1) := by decide +kernel
theorem dX12_otherGoal_41 : decode cX12_otherGoal 41 = .ok (.aload_n 0, 1) := by decide +kernel
theorem dX12_otherGoal_42 : decode cX12_otherGoal 42 = .ok (.getfield 244, 3) := by decide +kernel
theorem dX12_otherGoal_45 : decode cX12_otherGoal 45 = .ok (.invokevirtual 247, 3) := by decide +kernel
theorem dX12_otherGoal_48 : decode cX12_otherGoal 48 = .ok (.istore_n 3, 1) := by decide +kernel
theorem dX12_otherGoal_49 : decode cX12_otherGoal 49 = .ok (.iload_n 3, 1) := by decide +kernel
theorem dX12_otherGoal_50 : decode cX12_otherGoal 50 = .ok (.bipush 58, 2) := by decide +kernel
theorem dX12_otherGoal_52 : decode cX12_otherGoal 52 = .ok (.if_icmp .ne 180, 3) := by decide +kernel
theorem dX12_otherGoal_55 : decode cX12_otherGoal 55 = .ok (.aload_n 0, 1) := by decide +kernel
theorem dX12_otherGoal_56 : decode cX12_otherGoal 56 = .ok (.getfield 109, 3) := by decide +kernel
theorem dX12_otherGoal_59 : decode cX12_otherGoal 59 = .ok (.iconst 5, 1) := by decide +kernel
theorem dX12_otherGoal_60 : decode cX12_otherGoal 60 = .ok (.iload_n 1, 1) := by decide +kernel
theorem dX12_otherGoal_61 : decode cX12_otherGoal 61 = .ok (.imul, 1) := by decide +kernel
theorem dX12_otherGoal_62 : decode cX12_otherGoal 62 = .ok (.iaload, 1) := by decide +kernel
theorem dX12_otherGoal_63 : decode cX12_otherGoal 63 = .ok (.iconst 1, 1) := by decide +kernel
theorem dX12_otherGoal_64 : decode cX12_otherGoal 64 = .ok (.if_icmp .ne 168, 3) := by decide +kernel
theorem dX12_otherGoal_67 : decode cX12_otherGoal 67 = .ok (.aload_n 0, 1) := by decide +kernel
theorem dX12_otherGoal_68 : decode cX12_otherGoal 68 = .ok (.iload_n 1, 1) := by decide +kernel
theorem dX12_otherGoal_69 : decode cX12_otherGoal 69 = .ok (.iconst 5, 1) := by decide +kernel
theorem dX12_otherGoal_70 : decode cX12_otherGoal 70 = .ok (.iload_n 1, 1) := by decide +kernel
theorem dX12_otherGoal_71 : decode cX12_otherGoal 71 = .ok (.imul, 1) := by decide +kernel
theorem dX12_otherGoal_72 : decode cX12_otherGoal 72 = .ok (.invokevirtual 275, 3) := by decide +kernel
theorem dX12_otherGoal_75 : decode cX12_otherGoal 75 = .ok (.ifCond .eq 9, 3) := by decide +kernel
theorem dX12_otherGoal_78 : decode cX12_otherGoal 78 = .ok (.aload_n 0, 1) := by decide +kernel
theorem dX12_otherGoal_79 : decode cX12_otherGoal 79 = .ok (.iload_n 2, 1) := by decide +kernel
theorem dX12_otherGoal_80 : decode cX12_otherGoal 80 = .ok (.invokevirtual 266, 3) := by decide +kernel
theorem dX12_otherGoal_83 : decode cX12_otherGoal 83 = .ok (.ireturn, 1) := by decide +kernel
theorem dX12_otherGoal_84 : decode cX12_otherGoal 84 = .ok (.aload_n 0, 1) := by decide +kernel
theorem dX12_otherGoal_85 : decode cX12_otherGoal 85 = .ok (.dup, 1) := by decide +kernel
theorem dX12_otherGoal_86 : decode cX12_otherGoal 86 = .ok (.getfield 244, 3) := by decide +kernel
theorem dX12_otherGoal_89 : decode cX12_otherGoal 89 = .ok (.iconst 1, 1) := by decide +kernel
theorem dX12_otherGoal_90 : decode cX12_otherGoal 90 = .ok (.iadd, 1) := by decide +kernel
theorem dX12_otherGoal_91 : decode cX12_otherGoal 91 = .ok (.putfield 244, 3) := by decide +kernel
theorem dX12_otherGoal_94 : decode cX12_otherGoal 94 = .ok (.aload_n 0, 1) := by decide +kernel
theorem dX12_otherGoal_95 : decode cX12_otherGoal 95 = .ok (.iload_n 1, 1) := by decide +kernel
theorem dX12_otherGoal_96 : decode cX12_otherGoal 96 = .ok (.iconst 5, 1) := by decide +kernel
theorem dX12_otherGoal_97 : decode cX12_otherGoal 97 = .ok (.iload_n 1, 1) := by decide +kernel
theorem dX12_otherGoal_98 : decode cX12_otherGoal 98 = .ok (.imul, 1) := by decide +kernel
theorem dX12_otherGoal_99 : decode cX12_otherGoal 99 = .ok (.iconst 1, 1) := by decide +kernel
theorem dX12_otherGoal_100 : decode cX12_otherGoal 100 = .ok (.iadd, 1) := by decide +kernel
theorem dX12_otherGoal_101 : decode cX12_otherGoal 101 = .ok (.invokevirtual 278, 3) := by decide +kernel
theorem dX12_otherGoal_104 : decode cX12_otherGoal 104 = .ok (.ifCond .ne 5, 3) := by decide +kernel
theorem dX12_otherGoal_107 : decode cX12_otherGoal 107 = .ok (.iconst 0, 1) := by decide +kernel
theorem dX12_otherGoal_108 : decode cX12_otherGoal 108 = .ok (.ireturn, 1) := by decide +kernel
theorem dX12_otherGoal_109 : decode cX12_otherGoal 109 = .ok (.aload_n 0, 1) := by decide +kernel
theorem dX12_otherGoal_110 : decode cX12_otherGoal 110 = .ok (.invokevirtual 250, 3) := by decide +kernel
theorem dX12_otherGoal_113 : decode cX12_otherGoal 113 = .ok (.aload_n 0, 1) := by decide +kernel
theorem dX12_otherGoal_114 : decode cX12_otherGoal 114 = .ok (.aload_n 0, 1) := by decide +kernel
theorem dX12_otherGoal_115 : decode cX12_otherGoal 115 = .ok (.getfield 244, 3) := by decide +kernel
theorem dX12_otherGoal_118 : decode cX12_otherGoal 118 = .ok (.invokevirtual 247, 3) := by decide +kernel
theorem dX12_otherGoal_121 : decode cX12_otherGoal 121 = .ok (.istore 4, 2) := by decide +kernel
theorem dX12_otherGoal_123 : decode cX12_otherGoal 123 = .ok (.iload 4, 2) := by decide +kernel
theorem dX12_otherGoal_125 : decode cX12_otherGoal 125 = .ok (.bipush 43, 2) := by decide +kernel
theorem dX12_otherGoal_127 : decode cX12_otherGoal 127 = .ok (.if_icmp .eq 26, 3) := by decide +kernel
theorem dX12_otherGoal_130 : decode cX12_otherGoal 130 = .ok (.iload 4, 2) := by decide +kernel
theorem dX12_otherGoal_132 : decode cX12_otherGoal 132 = .ok (.bipush 45, 2) := by decide +kernel
theorem dX12_otherGoal_134 : decode cX12_otherGoal 134 = .ok (.if_icmp .eq 19, 3) := by decide +kernel
theorem dX12_otherGoal_137 : decode cX12_otherGoal 137 = .ok (.iload 4, 2) := by decide +kernel
theorem dX12_otherGoal_139 : decode cX12_otherGoal 139 = .ok (.bipush 42, 2) := by decide +kernel
theorem dX12_otherGoal_141 : decode cX12_otherGoal 141 = .ok (.if_icmp .eq 12, 3) := by decide +kernel
theorem dX12_otherGoal_144 : decode cX12_otherGoal 144 = .ok (.aload_n 0, 1) := by decide +kernel
theorem dX12_otherGoal_145 : decode cX12_otherGoal 145 = .ok (.aload_n 0, 1) := by decide +kernel
theorem dX12_otherGoal_146 : decode cX12_otherGoal 146 = .ok (.getfield 244, 3) := by decide +kernel
theorem dX12_otherGoal_149 : decode cX12_otherGoal 149 = .ok (.invokevirtual 266, 3) := by decide +kernel
theorem dX12_otherGoal_152 : decode cX12_otherGoal 152 = .ok (.ireturn, 1) := by decide +kernel
theorem dX12_otherGoal_153 : decode cX12_otherGoal 153 = .ok (.aload_n 0, 1) := by decide +kernel
theorem dX12_otherGoal_154 : decode cX12_otherGoal 154 = .ok (.getfield 103, 3) := by decide +kernel
theorem dX12_otherGoal_157 : decode cX12_otherGoal 157 = .ok (.iload_n 1, 1) := by decide +kernel
theorem dX12_otherGoal_158 : decode cX12_otherGoal 158 = .ok (.iload 4, 2) := by decide +kernel
theorem dX12_otherGoal_160 : decode cX12_otherGoal 160 = .ok (.bipush 43, 2) := by decide +kernel
theorem dX12_otherGoal_162 : decode cX12_otherGoal 162 = .ok (.if_icmp .ne 7, 3) := by decide +kernel
theorem dX12_otherGoal_165 : decode cX12_otherGoal 165 = .ok (.iconst 5, 1) := by decide +kernel
theorem dX12_otherGoal_166 : decode cX12_otherGoal 166 = .ok (.goto 17, 3) := by decide +kernel
theorem dX12_otherGoal_169 : decode cX12_otherGoal 169 = .ok (.iload 4, 2) := by decide +kernel
theorem dX12_otherGoal_171 : decode cX12_otherGoal 171 = .ok (.bipush 45, 2) := by decide +kernel
theorem dX12_otherGoal_173 : decode cX12_otherGoal 173 = .ok (.if_icmp .ne 8, 3) := by decide +kernel
theorem dX12_otherGoal_176 : decode cX12_otherGoal 176 = .ok (.bipush 6, 2) := by decide +kernel
theorem dX12_otherGoal_178 : decode cX12_otherGoal 178 = .ok (.goto 5, 3) := by decide +kernel
theorem dX12_otherGoal_181 : decode cX12_otherGoal 181 = .ok (.bipush 7, 2) := by decide +kernel
theorem dX12_otherGoal_183 : decode cX12_otherGoal 183 = .ok (.iastore, 1) := by decide +kernel
theorem dX12_otherGoal_184 : decode cX12_otherGoal 184 = .ok (.aload_n 0, 1) := by decide +kernel
theorem dX12_otherGoal_185 : decode cX12_otherGoal 185 = .ok (.dup, 1) := by decide +kernel
theorem dX12_otherGoal_186 : decode cX12_otherGoal 186 = .ok (.getfield 244, 3) := by decide +kernel
theorem dX12_otherGoal_189 : decode cX12_otherGoal 189 = .ok (.iconst 1, 1) := by decide +kernel
theorem dX12_otherGoal_190 : decode cX12_otherGoal 190 = .ok (.iadd, 1) := by decide +kernel
theorem dX12_otherGoal_191 : decode cX12_otherGoal 191 = .ok (.putfield 244, 3) := by decide +kernel
theorem dX12_otherGoal_194 : decode cX12_otherGoal 194 = .ok (.aload_n 0, 1) := by decide +kernel
theorem dX12_otherGoal_195 : decode cX12_otherGoal 195 = .ok (.iload_n 1, 1) := by decide +kernel
theorem dX12_otherGoal_196 : decode cX12_otherGoal 196 = .ok (.iconst 5, 1) := by decide +kernel
theorem dX12_otherGoal_197 : decode cX12_otherGoal 197 = .ok (.iload_n 1, 1) := by decide +kernel
theorem dX12_otherGoal_198 : decode cX12_otherGoal 198 = .ok (.imul, 1) := by decide +kernel
theorem dX12_otherGoal_199 : decode cX12_otherGoal 199 = .ok (.iconst 2, 1) := by decide +kernel
theorem dX12_otherGoal_200 : decode cX12_otherGoal 200 = .ok (.iadd, 1) := by decide +kernel
theorem dX12_otherGoal_201 : decode cX12_otherGoal 201 = .ok (.invokevirtual 278, 3) := by decide +kernel
theorem dX12_otherGoal_204 : decode cX12_otherGoal 204 = .ok (.ifCond .ne 5, 3) := by decide +kernel
theorem dX12_otherGoal_207 : decode cX12_otherGoal 207 = .ok (.iconst 0, 1) := by decide +kernel
theorem dX12_otherGoal_208 : decode cX12_otherGoal 208 = .ok (.ireturn, 1) := by decide +kernel
theorem dX12_otherGoal_209 : decode cX12_otherGoal 209 = .ok (.aload_n 0, 1) := by decide +kernel
theorem dX12_otherGoal_210 : decode cX12_otherGoal 210 = .ok (.getfield 115, 3) := by decide +kernel
theorem dX12_otherGoal_213 : decode cX12_otherGoal 213 = .ok (.iload_n 1, 1) := by decide +kernel
theorem dX12_otherGoal_214 : decode cX12_otherGoal 214 = .ok (.iconst 1, 1) := by decide +kernel
theorem dX12_otherGoal_215 : decode cX12_otherGoal 215 = .ok (.iadd, 1) := by decide +kernel
theorem dX12_otherGoal_216 : decode cX12_otherGoal 216 = .ok (.dup2, 1) := by decide +kernel
theorem dX12_otherGoal_217 : decode cX12_otherGoal 217 = .ok (.iaload, 1) := by decide +kernel
theorem dX12_otherGoal_218 : decode cX12_otherGoal 218 = .ok (.iconst 1, 1) := by decide +kernel
theorem dX12_otherGoal_219 : decode cX12_otherGoal 219 = .ok (.aload_n 0, 1) := by decide +kernel
theorem dX12_otherGoal_220 : decode cX12_otherGoal 220 = .ok (.getfield 112, 3) := by decide +kernel
theorem dX12_otherGoal_223 : decode cX12_otherGoal 223 = .ok (.iconst 5, 1) := by decide +kernel
theorem dX12_otherGoal_224 : decode cX12_otherGoal 224 = .ok (.iload_n 1, 1) := by decide +kernel
theorem dX12_otherGoal_225 : decode cX12_otherGoal 225 = .ok (.imul, 1) := by decide +kernel
theorem dX12_otherGoal_226 : decode cX12_otherGoal 226 = .ok (.iaload, 1) := by decide +kernel
theorem dX12_otherGoal_227 : decode cX12_otherGoal 227 = .ok (.ishl, 1) := by decide +kernel
theorem dX12_otherGoal_228 : decode cX12_otherGoal 228 = .ok (.ior, 1) := by decide +kernel
theorem dX12_otherGoal_229 : decode cX12_otherGoal 229 = .ok (.iastore, 1) := by decide +kernel
theorem dX12_otherGoal_230 : decode cX12_otherGoal 230 = .ok (.iconst 1, 1) := by decide +kernel
theorem dX12_otherGoal_231 : decode cX12_otherGoal 231 = .ok (.ireturn, 1) := by decide +kernel
theorem dX12_otherGoal_232 : decode cX12_otherGoal 232 = .ok (.iload_n 3, 1) := by decide +kernel
theorem dX12_otherGoal_233 : decode cX12_otherGoal 233 = .ok (.bipush 60, 2) := by decide +kernel
theorem dX12_otherGoal_235 : decode cX12_otherGoal 235 = .ok (.if_icmp .eq 24, 3) := by decide +kernel
theorem dX12_otherGoal_238 : decode cX12_otherGoal 238 = .ok (.iload_n 3, 1) := by decide +kernel
theorem dX12_otherGoal_239 : decode cX12_otherGoal 239 = .ok (.bipush 61, 2) := by decide +kernel
theorem dX12_otherGoal_241 : decode cX12_otherGoal 241 = .ok (.if_icmp .eq 18, 3) := by decide +kernel
theorem dX12_otherGoal_244 : decode cX12_otherGoal 244 = .ok (.iload_n 3, 1) := by decide +kernel
theorem dX12_otherGoal_245 : decode cX12_otherGoal 245 = .ok (.bipush 35, 2) := by decide +kernel
theorem dX12_otherGoal_247 : decode cX12_otherGoal 247 = .ok (.if_icmp .eq 12, 3) := by decide +kernel
theorem dX12_otherGoal_250 : decode cX12_otherGoal 250 = .ok (.aload_n 0, 1) := by decide +kernel
theorem dX12_otherGoal_251 : decode cX12_otherGoal 251 = .ok (.aload_n 0, 1) := by decide +kernel
theorem dX12_otherGoal_252 : decode cX12_otherGoal 252 = .ok (.getfield 244, 3) := by decide +kernel
theorem dX12_otherGoal_255 : decode cX12_otherGoal 255 = .ok (.invokevirtual 266, 3) := by decide +kernel
theorem dX12_otherGoal_258 : decode cX12_otherGoal 258 = .ok (.ireturn, 1) := by decide +kernel
theorem dX12_otherGoal_259 : decode cX12_otherGoal 259 = .ok (.aload_n 0, 1) := by decide +kernel
theorem dX12_otherGoal_260 : decode cX12_otherGoal 260 = .ok (.iload_n 1, 1) := by decide +kernel
theorem dX12_otherGoal_261 : decode cX12_otherGoal 261 = .ok (.iconst 5, 1) := by decide +kernel
theorem dX12_otherGoal_262 : decode cX12_otherGoal 262 = .ok (.iload_n 1, 1) := by decide +kernel
theorem dX12_otherGoal_263 : decode cX12_otherGoal 263 = .ok (.imul, 1) := by decide +kernel
theorem dX12_otherGoal_264 : decode cX12_otherGoal 264 = .ok (.invokevirtual 275, 3) := by decide +kernel
theorem dX12_otherGoal_267 : decode cX12_otherGoal 267 = .ok (.ifCond .ne 9, 3) := by decide +kernel
theorem dX12_otherGoal_270 : decode cX12_otherGoal 270 = .ok (.aload_n 0, 1) := by decide +kernel
theorem dX12_otherGoal_271 : decode cX12_otherGoal 271 = .ok (.iload_n 2, 1) := by decide +kernel
theorem dX12_otherGoal_272 : decode cX12_otherGoal 272 = .ok (.invokevirtual 266, 3) := by decide +kernel
theorem dX12_otherGoal_275 : decode cX12_otherGoal 275 = .ok (.ireturn, 1) := by decide +kernel
theorem dX12_otherGoal_276 : decode cX12_otherGoal 276 = .ok (.aload_n 0, 1) := by decide +kernel
theorem dX12_otherGoal_277 : decode cX12_otherGoal 277 = .ok (.getfield 103, 3) := by decide +kernel
theorem dX12_otherGoal_280 : decode cX12_otherGoal 280 = .ok (.iload_n 1, 1) := by decide +kernel
theorem dX12_otherGoal_281 : decode cX12_otherGoal 281 = .ok (.iload_n 3, 1) := by decide +kernel
theorem dX12_otherGoal_282 : decode cX12_otherGoal 282 = .ok (.bipush 60, 2) := by decide +kernel
theorem dX12_otherGoal_284 : decode cX12_otherGoal 284 = .ok (.if_icmp .ne 7, 3) := by decide +kernel
theorem dX12_otherGoal_287 : decode cX12_otherGoal 287 = .ok (.iconst 2, 1) := by decide +kernel
theorem dX12_otherGoal_288 : decode cX12_otherGoal 288 = .ok (.goto 14, 3) := by decide +kernel
theorem dX12_otherGoal_291 : decode cX12_otherGoal 291 = .ok (.iload_n 3, 1) := by decide +kernel
theorem dX12_otherGoal_292 : decode cX12_otherGoal 292 = .ok (.bipush 61, 2) := by decide +kernel
theorem dX12_otherGoal_294 : decode cX12_otherGoal 294 = .ok (.if_icmp .ne 7, 3) := by decide +kernel
theorem dX12_otherGoal_297 : decode cX12_otherGoal 297 = .ok (.iconst 3, 1) := by decide +kernel
theorem dX12_otherGoal_298 : decode cX12_otherGoal 298 = .ok (.goto 4, 3) := by decide +kernel
theorem dX12_otherGoal_301 : decode cX12_otherGoal 301 = .ok (.iconst 4, 1) := by decide +kernel
theorem dX12_otherGoal_302 : decode cX12_otherGoal 302 = .ok (.iastore, 1) := by decide +kernel
theorem dX12_otherGoal_303 : decode cX12_otherGoal 303 = .ok (.aload_n 0, 1) := by decide +kernel
theorem dX12_otherGoal_304 : decode cX12_otherGoal 304 = .ok (.dup, 1) := by decide +kernel
theorem dX12_otherGoal_305 : decode cX12_otherGoal 305 = .ok (.getfield 244, 3) := by decide +kernel
theorem dX12_otherGoal_308 : decode cX12_otherGoal 308 = .ok (.iconst 1, 1) := by decide +kernel
theorem dX12_otherGoal_309 : decode cX12_otherGoal 309 = .ok (.iadd, 1) := by decide +kernel
theorem dX12_otherGoal_310 : decode cX12_otherGoal 310 = .ok (.putfield 244, 3) := by decide +kernel
theorem dX12_otherGoal_313 : decode cX12_otherGoal 313 = .ok (.aload_n 0, 1) := by decide +kernel
theorem dX12_otherGoal_314 : decode cX12_otherGoal 314 = .ok (.iload_n 1, 1) := by decide +kernel
theorem dX12_otherGoal_315 : decode cX12_otherGoal 315 = .ok (.iconst 5, 1) := by decide +kernel
theorem dX12_otherGoal_316 : decode cX12_otherGoal 316 = .ok (.iload_n 1, 1) := by decide +kernel
theorem dX12_otherGoal_317 : decode cX12_otherGoal 317 = .ok (.imul, 1) := by decide +kernel
theorem dX12_otherGoal_318 : decode cX12_otherGoal 318 = .ok (.iconst 1, 1) := by decide +kernel
theorem dX12_otherGoal_319 : decode cX12_otherGoal 319 = .ok (.iadd, 1) := by decide +kernel
theorem dX12_otherGoal_320 : decode cX12_otherGoal 320 = .ok (.invokevirtual 278, 3) := by decide +kernel
theorem dX12_otherGoal_323 : decode cX12_otherGoal 323 = .ok (.ireturn, 1) := by decide +kernel
theorem i9wsX12_otherGoal_0 : ∀ w ∈ wsX12_otherGoal_r1, w ∈ wsX12_otherGoal := fun _ h => (List.mem_cons_of_mem _ (List.mem_append_left _ (List.mem_append_left _ h)))
theorem i9wsX12_otherGoal_1 : ∀ w ∈ wsX12_otherGoal_r2, w ∈ wsX12_otherGoal := fun _ h => (List.mem_cons_of_mem _ (List.mem_append_left _ (List.mem_append_right _ h)))
theorem i9wsX12_otherGoal_2 : ∀ w ∈ wsX120, w ∈ wsX12_otherGoal := fun _ h => (List.mem_cons_of_mem _ (List.mem_append_right _ h))
set_option maxRecDepth 20000 in
theorem ggX12_otherGoal_X12_argument : GoodIn wsX12_otherGoal wsX12_argument := (gin_c (mem_at i9wsX12_otherGoal_0 9 rfl) rfl (goodIn_app (goodIn_app (gin_c (mem_at i9wsX12_otherGoal_0 0 rfl) rfl (gin_c (mem_at i9wsX12_otherGoal_0 2 rfl) rfl (gin_c (mem_at i9wsX12_otherGoal_0 4 rfl) rfl (gin_c (mem_at i9wsX12_otherGoal_0 10 rfl) rfl (gin_c (mem_at i9wsX12_otherGoal_0 11 rfl) rfl (gin_c (mem_at i9wsX12_otherGoal_0 12 rfl) rfl (gin_c (mem_at i9wsX12_otherGoal_0 13 rfl) rfl (gin_c (mem_at i9wsX12_otherGoal_0 8 rfl) rfl (gin_c (mem_at i9wsX12_otherGoal_0 14 rfl) rfl (gin_c (mem_at i9wsX12_otherGoal_0 15 rfl) rfl (gin_c (mem_at i9wsX12_otherGoal_0 16 rfl) rfl (gin_c (mem_at i9wsX12_otherGoal_0 17 rfl) rfl (gin_c (mem_at i9wsX12_otherGoal_0 18 rfl) rfl (gin_c (mem_at i9wsX12_otherGoal_0 19 rfl) rfl (gin_c (mem_at i9wsX12_otherGoal_0 20 rfl) rfl (gin_c (mem_at i9wsX12_otherGoal_0 21 rfl) rfl (gin_c (mem_at i9wsX12_otherGoal_0 22 rfl) rfl (gin_c (mem_at i9wsX12_otherGoal_0 23 rfl) rfl (gin_c (mem_at i9wsX12_otherGoal_1 0 rfl) rfl (gin_c (mem_at i9wsX12_otherGoal_1 1 rfl) rfl (gin_c (mem_at i9wsX12_otherGoal_1 2 rfl) rfl (gin_c (mem_at i9wsX12_otherGoal_1 3 rfl) rfl (gin_c (mem_at i9wsX12_otherGoal_1 4 rfl) rfl (gin_c (mem_at i9wsX12_otherGoal_1 5 rfl) rfl gin_n)))))))))))))))))))))))) (gin_c (mem_at i9wsX12_otherGoal_1 6 rfl) rfl (gin_c (mem_at i9wsX12_otherGoal_1 7 rfl) rfl (gin_c (mem_at i9wsX12_otherGoal_1 8 rfl) rfl gin_n)))) (goodIn_sub i9wsX12_otherGoal_2 g9_16)))
set_option maxRecDepth 20000 in
theorem gX12_otherGoal_X12_argument : GoodIn wsX12_otherGoal (wsV RX12 272 RX12 yX12_argument wsX12_argument) := goodIn_app (gin_c (mem_at i9wsX12_otherGoal_0 5 rfl) rfl (gin_c (mem_at i9wsX12_otherGoal_0 6 rfl) rfl (gin_c (mem_at i9wsX12_otherGoal_0 7 rfl) rfl (gin_c (mem_at i9wsX12_otherGoal_0 8 rfl) rfl gin_n)))) ggX12_otherGoal_X12_argument
set_option maxRecDepth 20000 in
theorem ggX12_otherGoal_X12_wrong : GoodIn wsX12_otherGoal wsX12_wrong := (gin_c (mem_at i9wsX12_otherGoal_1 12 rfl) rfl (goodIn_app (gin_c (mem_at i9wsX12_otherGoal_0 19 rfl) rfl (gin_c (mem_at i9wsX12_otherGoal_1 13 rfl) rfl gin_n)) (goodIn_sub i9wsX12_otherGoal_2 g9_16)))
set_option maxRecDepth 20000 in
theorem gX12_otherGoal_X12_wrong : GoodIn wsX12_otherGoal (wsV RX12 266 RX12 yX12_wrong wsX12_wrong) := goodIn_app (gin_c (mem_at i9wsX12_otherGoal_1 9 rfl) rfl (gin_c (mem_at i9wsX12_otherGoal_1 10 rfl) rfl (gin_c (mem_at i9wsX12_otherGoal_1 11 rfl) rfl (gin_c (mem_at i9wsX12_otherGoal_0 8 rfl) rfl gin_n)))) ggX12_otherGoal_X12_wrong
set_option maxRecDepth 20000 in
theorem ggX12_otherGoal_X12_blanks : GoodIn wsX12_otherGoal wsX12_blanks := (gin_c (mem_at i9wsX12_otherGoal_0 14 rfl) rfl (goodIn_app (gin_c (mem_at i9wsX12_otherGoal_0 0 rfl) rfl (gin_c (mem_at i9wsX12_otherGoal_0 15 rfl) rfl (gin_c (mem_at i9wsX12_otherGoal_0 16 rfl) rfl (gin_c (mem_at i9wsX12_otherGoal_0 17 rfl) rfl (gin_c (mem_at i9wsX12_otherGoal_0 8 rfl) rfl (gin_c (mem_at i9wsX12_otherGoal_0 18 rfl) rfl (gin_c (mem_at i9wsX12_otherGoal_0 19 rfl) rfl (gin_c (mem_at i9wsX12_otherGoal_0 20 rfl) rfl gin_n)))))))) (goodIn_sub i9wsX12_otherGoal_2 g9_16)))
set_option maxRecDepth 20000 in
theorem gX12_otherGoal_X12_blanks : GoodIn wsX12_otherGoal (wsV RX12 250 RX12 yX12_blanks wsX12_blanks) := goodIn_app (gin_c (mem_at i9wsX12_otherGoal_0 11 rfl) rfl (gin_c (mem_at i9wsX12_otherGoal_0 12 rfl) rfl (gin_c (mem_at i9wsX12_otherGoal_0 13 rfl) rfl (gin_c (mem_at i9wsX12_otherGoal_0 8 rfl) rfl gin_n)))) ggX12_otherGoal_X12_blanks
set_option maxRecDepth 20000 in
theorem ggX12_otherGoal_X12_byteAt : GoodIn wsX12_otherGoal wsX12_byteAt := (gin_c (mem_at i9wsX12_otherGoal_0 18 rfl) rfl (goodIn_app (gin_c (mem_at i9wsX12_otherGoal_0 19 rfl) rfl (gin_c (mem_at i9wsX12_otherGoal_0 20 rfl) rfl gin_n)) (goodIn_sub i9wsX12_otherGoal_2 g9_16)))
set_option maxRecDepth 20000 in
theorem gX12_otherGoal_X12_byteAt : GoodIn wsX12_otherGoal (wsV RX12 247 RX12 yX12_byteAt wsX12_byteAt) := goodIn_app (gin_c (mem_at i9wsX12_otherGoal_0 15 rfl) rfl (gin_c (mem_at i9wsX12_otherGoal_0 16 rfl) rfl (gin_c (mem_at i9wsX12_otherGoal_0 17 rfl) rfl (gin_c (mem_at i9wsX12_otherGoal_0 8 rfl) rfl gin_n)))) ggX12_otherGoal_X12_byteAt
set_option maxRecDepth 20000 in
theorem ggX12_otherGoal_X12_isKnown : GoodIn wsX12_otherGoal wsX12_isKnown := (gin_c (mem_at i9wsX12_otherGoal_1 17 rfl) rfl (goodIn_app (gin_c (mem_at i9wsX12_otherGoal_0 2 rfl) rfl (gin_c (mem_at i9wsX12_otherGoal_0 1 rfl) rfl (gin_c (mem_at i9wsX12_otherGoal_0 4 rfl) rfl gin_n))) (goodIn_sub i9wsX12_otherGoal_2 g9_16)))
set_option maxRecDepth 20000 in
theorem gX12_otherGoal_X12_isKnown : GoodIn wsX12_otherGoal (wsV RX12 275 RX12 yX12_isKnown wsX12_isKnown) := goodIn_app (gin_c (mem_at i9wsX12_otherGoal_1 14 rfl) rfl (gin_c (mem_at i9wsX12_otherGoal_1 15 rfl) rfl (gin_c (mem_at i9wsX12_otherGoal_1 16 rfl) rfl (gin_c (mem_at i9wsX12_otherGoal_0 8 rfl) rfl gin_n)))) ggX12_otherGoal_X12_isKnown
set_option maxRecDepth 20000 in
theorem ggX12_otherGoal_X12_knownArgument : GoodIn wsX12_otherGoal wsX12_knownArgument := (gin_c (mem_at i9wsX12_otherGoal_1 21 rfl) rfl (goodIn_app (goodIn_app (gin_c (mem_at i9wsX12_otherGoal_0 0 rfl) rfl (gin_c (mem_at i9wsX12_otherGoal_0 11 rfl) rfl (gin_c (mem_at i9wsX12_otherGoal_0 12 rfl) rfl (gin_c (mem_at i9wsX12_otherGoal_0 13 rfl) rfl (gin_c (mem_at i9wsX12_otherGoal_0 8 rfl) rfl (gin_c (mem_at i9wsX12_otherGoal_0 14 rfl) rfl (gin_c (mem_at i9wsX12_otherGoal_0 15 rfl) rfl (gin_c (mem_at i9wsX12_otherGoal_0 16 rfl) rfl (gin_c (mem_at i9wsX12_otherGoal_0 17 rfl) rfl (gin_c (mem_at i9wsX12_otherGoal_0 18 rfl) rfl (gin_c (mem_at i9wsX12_otherGoal_0 19 rfl) rfl (gin_c (mem_at i9wsX12_otherGoal_0 20 rfl) rfl (gin_c (mem_at i9wsX12_otherGoal_0 5 rfl) rfl (gin_c (mem_at i9wsX12_otherGoal_0 6 rfl) rfl (gin_c (mem_at i9wsX12_otherGoal_0 7 rfl) rfl (gin_c (mem_at i9wsX12_otherGoal_0 9 rfl) rfl (gin_c (mem_at i9wsX12_otherGoal_0 2 rfl) rfl (gin_c (mem_at i9wsX12_otherGoal_0 4 rfl) rfl (gin_c (mem_at i9wsX12_otherGoal_0 10 rfl) rfl (gin_c (mem_at i9wsX12_otherGoal_0 21 rfl) rfl (gin_c (mem_at i9wsX12_otherGoal_0 22 rfl) rfl (gin_c (mem_at i9wsX12_otherGoal_0 23 rfl) rfl (gin_c (mem_at i9wsX12_otherGoal_1 0 rfl) rfl (gin_c (mem_at i9wsX12_otherGoal_1 1 rfl) rfl gin_n)))))))))))))))))))))))) (gin_c (mem_at i9wsX12_otherGoal_1 2 rfl) rfl (gin_c (mem_at i9wsX12_otherGoal_1 3 rfl) rfl (gin_c (mem_at i9wsX12_otherGoal_1 4 rfl) rfl (gin_c (mem_at i9wsX12_otherGoal_1 5 rfl) rfl (gin_c (mem_at i9wsX12_otherGoal_1 6 rfl) rfl (gin_c (mem_at i9wsX12_otherGoal_1 7 rfl) rfl (gin_c (mem_at i9wsX12_otherGoal_1 8 rfl) rfl (gin_c (mem_at i9wsX12_otherGoal_1 14 rfl) rfl (gin_c (mem_at i9wsX12_otherGoal_1 15 rfl) rfl (gin_c (mem_at i9wsX12_otherGoal_1 16 rfl) rfl (gin_c (mem_at i9wsX12_otherGoal_1 17 rfl) rfl (gin_c (mem_at i9wsX12_otherGoal_0 1 rfl) rfl (gin_c (mem_at i9wsX12_otherGoal_1 9 rfl) rfl (gin_c (mem_at i9wsX12_otherGoal_1 10 rfl) rfl (gin_c (mem_at i9wsX12_otherGoal_1 11 rfl) rfl (gin_c (mem_at i9wsX12_otherGoal_1 12 rfl) rfl (gin_c (mem_at i9wsX12_otherGoal_1 13 rfl) rfl gin_n)))))))))))))))))) (goodIn_sub i9wsX12_otherGoal_2 g9_16)))
set_option maxRecDepth 20000 in
theorem gX12_otherGoal_X12_knownArgument : GoodIn wsX12_otherGoal (wsV RX12 278 RX12 yX12_knownArgument wsX12_knownArgument) := goodIn_app (gin_c (mem_at i9wsX12_otherGoal_1 18 rfl) rfl (gin_c (mem_at i9wsX12_otherGoal_1 19 rfl) rfl (gin_c (mem_at i9wsX12_otherGoal_1 20 rfl) rfl (gin_c (mem_at i9wsX12_otherGoal_0 8 rfl) rfl gin_n)))) ggX12_otherGoal_X12_knownArgument
set_option maxHeartbeats 4000000 in
set_option maxRecDepth 100000 in
theorem T_X12_otherGoal (l : Launch) (hl : l.stackTraces = false) (D : va_G) (cA : Nat → ClassId) {l0 : Option Nat} {l1 : Int32} {x : HS} {Q : Int32 → HS → Prop} {X : String → HS → Prop} (h : w_X12_otherGoal l0 l1 x Q X) : YI l yX12_otherGoal wsX12_otherGoal 5 114 D cA [.q l0, .i l1] x Q X := by
  refine YI.of (cc := cX12_otherGoal) (maxL := 5) (ret := (some .boolean)) hl (by decide) rfl rfl (fun g B fr => ?_)
  have o := B.o
  have hb := B.hb
  have hts := B.hts
  have hown : g.s.vm.findClass RX12 = some g.m.cls := B.hown
  have in12 : ∀ w ∈ u_ws RX12 TX12 57, w ∈ wsX12_otherGoal := fun w h => (List.mem_cons_of_mem _ (List.mem_append_right _ h))
  unfold w_X12_otherGoal at h
  show KW g 5 0 [(0, .q l0), (1, .i l1)] [] x
  refine k_aload_n o hb dX12_otherGoal_0 rfl 0 rfl ?_
  refine k_getI (C := RX12) (T := TX12) (N := 57) o hb hts in12 hown rfl (by decide) 41 (by decide) rfl (hts (.fieldLink RX12 244 "FactKeeperModel" "at" "I") (by decide +kernel)) (fun _ h9 => h9) dX12_otherGoal_1 h (fun v1 h => ?_)
  refine k_istore_n o hb dX12_otherGoal_4 rfl rfl ?_
  refine k_aload_n o hb dX12_otherGoal_5 rfl 1 rfl ?_
  refine k_iconst (v := 5) o hb dX12_otherGoal_6 (by decide) ?_
  refine k_iload_n o hb dX12_otherGoal_7 rfl 2 rfl ?_
  refine k_imul o hb dX12_otherGoal_8 ?_
  refine k_iconst (v := 0) o hb dX12_otherGoal_9 (by decide) ?_
  refine k_run_i o (fun _ _ q => q) (k_runV (ci := 12) (rc := (RX12, TX12, 57)) o hb B.hml hown hts rfl (by decide) (T_X12_argument g.l o.hl g.D g.cA h.2) (cwV 2 hts gX12_otherGoal_X12_argument rfl rfl rfl (by decide +kernel) ⟨yle B.hR1 rfl, yle B.hR2 rfl⟩) h.1 rfl rfl (Nat.le_of_ble_eq_true rfl) dX12_otherGoal_10) (fun v3 x2 h => ?_)
  refine k_if_ne (tgt := 22) o hb dX12_otherGoal_13 (by decide) h (fun h => ?_) (fun h => ?_)
  · skip
    refine k_aload_n o hb dX12_otherGoal_16 rfl 1 rfl ?_
    refine k_iload_n o hb dX12_otherGoal_17 rfl 0 rfl ?_
    refine k_run_i o (fun _ _ q => q) (k_runV (ci := 12) (rc := (RX12, TX12, 57)) o hb B.hml hown hts rfl (by decide) (T_X12_wrong g.l o.hl g.D g.cA h.2) (cwV 1 hts gX12_otherGoal_X12_wrong rfl rfl rfl (by decide +kernel) ⟨yle B.hR1 rfl, yle B.hR2 rfl⟩) h.1 rfl rfl (Nat.le_of_ble_eq_true rfl) dX12_otherGoal_18) (fun v5 x4 h => ?_)
    exact k_zret o hb B.hr fr dX12_otherGoal_21 h
  · skip
    refine k_aload_n o hb dX12_otherGoal_22 rfl 1 rfl ?_
    refine k_getF (C := RX12) (T := TX12) (N := 57) o hb hts in12 hown rfl (by decide) 48 (by decide) rfl (hts (.fieldLink RX12 115 "FactKeeperModel" "known" "[I") (by decide +kernel)) (fun _ h9 => h9) dX12_otherGoal_23 h (fun v6 h => ?_)
    refine k_iload_n o hb dX12_otherGoal_26 rfl 2 rfl ?_
    refine k_iconst (v := 1) o hb dX12_otherGoal_27 (by decide) ?_
    refine k_iadd o hb dX12_otherGoal_28 ?_
    refine k_aload_n o hb dX12_otherGoal_29 rfl 1 rfl ?_
    refine k_getF (C := RX12) (T := TX12) (N := 57) o hb hts in12 hown rfl (by decide) 48 (by decide) rfl (hts (.fieldLink RX12 115 "FactKeeperModel" "known" "[I") (by decide +kernel)) (fun _ h9 => h9) dX12_otherGoal_30 h (fun v7 h => ?_)
    refine k_iload_n o hb dX12_otherGoal_33 rfl 2 rfl ?_
    refine k_iald o hb dX12_otherGoal_34 h (fun v8 h => ?_)
    refine k_iast o hb dX12_otherGoal_35 h (fun x9 h => ?_)
    refine k_aload_n o hb dX12_otherGoal_36 rfl 1 rfl ?_
    refine k_run_v o (fun _ _ q => q) (k_runV (ci := 12) (rc := (RX12, TX12, 57)) o hb B.hml hown hts rfl (by decide) (T_X12_blanks g.l o.hl g.D g.cA h.2) (cwV 0 hts gX12_otherGoal_X12_blanks rfl rfl rfl (by decide +kernel) ⟨yle B.hR1 rfl, yle B.hR2 rfl⟩) h.1 rfl rfl (Nat.le_of_ble_eq_true rfl) dX12_otherGoal_37) (fun x10 h => ?_)
    refine k_aload_n o hb dX12_otherGoal_40 rfl 1 rfl ?_
    refine k_aload_n o hb dX12_otherGoal_41 rfl 1 rfl ?_
    refine k_getI (C := RX12) (T := TX12) (N := 57) o hb hts in12 hown rfl (by decide) 41 (by decide) rfl (hts (.fieldLink RX12 244 "FactKeeperModel" "at" "I") (by decide +kernel)) (fun _ h9 => h9) dX12_otherGoal_42 h (fun v12 h => ?_)
    refine k_run_i o (fun _ _ q => q) (k_runV (ci := 12) (rc := (RX12, TX12, 57)) o hb B.hml hown hts rfl (by decide) (T_X12_byteAt g.l o.hl g.D g.cA h.2) (cwV 1 hts gX12_otherGoal_X12_byteAt rfl rfl rfl (by decide +kernel) ⟨yle B.hR1 rfl, yle B.hR2 rfl⟩) h.1 rfl rfl (Nat.le_of_ble_eq_true rfl) dX12_otherGoal_45) (fun v14 x13 h => ?_)
    refine k_istore_n o hb dX12_otherGoal_48 rfl rfl ?_
    refine k_iload_n o hb dX12_otherGoal_49 rfl 0 rfl ?_
    refine k_bipush (v := 58) o hb dX12_otherGoal_50 (by decide) ?_
    refine wJoin_elim (M := fun K => ∀  (x16 : HS), K  x16 → KW g 5 232 [(0, .q l0), (1, .i l1), (2, .i v1), (3, .i v14)] [] x16) h ?_ (fun j15 hj15 h => ?_)
    · skip
      intro  x16 h
      refine k_iload_n o hb dX12_otherGoal_232 rfl 3 rfl ?_
      refine k_bipush (v := 60) o hb dX12_otherGoal_233 (by decide) ?_
      refine wJoin_elim (M := fun K => ∀  (x18 : HS), K  x18 → KW g 5 259 [(0, .q l0), (1, .i l1), (2, .i v1), (3, .i v14)] [] x18) h ?_ (fun j17 hj17 h => ?_)
      · skip
        intro  x18 h
        refine k_aload_n o hb dX12_otherGoal_259 rfl 0 rfl ?_
        refine k_iload_n o hb dX12_otherGoal_260 rfl 1 rfl ?_
        refine k_iconst (v := 5) o hb dX12_otherGoal_261 (by decide) ?_
        refine k_iload_n o hb dX12_otherGoal_262 rfl 1 rfl ?_
        refine k_imul o hb dX12_otherGoal_263 ?_
        refine k_run_i o (fun _ _ q => q) (k_runV (ci := 12) (rc := (RX12, TX12, 57)) o hb B.hml hown hts rfl (by decide) (T_X12_isKnown g.l o.hl g.D g.cA h.2) (cwV 2 hts gX12_otherGoal_X12_isKnown rfl rfl rfl (by decide +kernel) ⟨yle B.hR1 rfl, yle B.hR2 rfl⟩) h.1 rfl rfl (Nat.le_of_ble_eq_true rfl) dX12_otherGoal_264) (fun v20 x19 h => ?_)
        refine k_if_ne (tgt := 276) o hb dX12_otherGoal_267 (by decide) h (fun h => ?_) (fun h => ?_)
        · skip
          refine k_aload_n o hb dX12_otherGoal_270 rfl 0 rfl ?_
          refine k_iload_n o hb dX12_otherGoal_271 rfl 2 rfl ?_
          refine k_run_i o (fun _ _ q => q) (k_runV (ci := 12) (rc := (RX12, TX12, 57)) o hb B.hml hown hts rfl (by decide) (T_X12_wrong g.l o.hl g.D g.cA h.2) (cwV 1 hts gX12_otherGoal_X12_wrong rfl rfl rfl (by decide +kernel) ⟨yle B.hR1 rfl, yle B.hR2 rfl⟩) h.1 rfl rfl (Nat.le_of_ble_eq_true rfl) dX12_otherGoal_272) (fun v22 x21 h => ?_)
          exact k_zret o hb B.hr fr dX12_otherGoal_275 h
        · skip
          refine k_aload_n o hb dX12_otherGoal_276 rfl 0 rfl ?_
          refine k_getF (C := RX12) (T := TX12) (N := 57) o hb hts in12 hown rfl (by decide) 44 (by decide) rfl (hts (.fieldLink RX12 103 "FactKeeperModel" "goal" "[I") (by decide +kernel)) (fun _ h9 => h9) dX12_otherGoal_277 h (fun v23 h => ?_)
          refine k_iload_n o hb dX12_otherGoal_280 rfl 1 rfl ?_
          refine k_iload_n o hb dX12_otherGoal_281 rfl 3 rfl ?_
          refine k_bipush (v := 60) o hb dX12_otherGoal_282 (by decide) ?_
          refine wJoin_elim (M := fun K => ∀ (v26 : Int32) (x25 : HS), K v26 x25 → KW g 5 302 [(0, .q l0), (1, .i l1)] [.i v26, .i l1, .q v23] x25) h ?_ (fun j24 hj24 h => ?_)
          · skip
            intro v26 x25 h
            refine k_iast o hb dX12_otherGoal_302 h (fun x27 h => ?_)
            refine k_aload_n o hb dX12_otherGoal_303 rfl 0 rfl ?_
            refine k_dup o hb dX12_otherGoal_304 ?_
            refine k_getI (C := RX12) (T := TX12) (N := 57) o hb hts in12 hown rfl (by decide) 41 (by decide) rfl (hts (.fieldLink RX12 244 "FactKeeperModel" "at" "I") (by decide +kernel)) (fun _ h9 => h9) dX12_otherGoal_305 h (fun v28 h => ?_)
            refine k_iconst (v := 1) o hb dX12_otherGoal_308 (by decide) ?_
            refine k_iadd o hb dX12_otherGoal_309 ?_
            refine k_putI (C := RX12) (T := TX12) (N := 57) (ty := .int) o hb hts in12 tyX12 tyX12_ok nmX12 hown rfl (by decide) 41 (by decide) rfl (hts (.fieldLink RX12 244 "FactKeeperModel" "at" "I") (by decide +kernel)) (fun _ h9 => h9) rfl (by decide +kernel) (fun _ => rfl) (fun _ => rfl) dX12_otherGoal_310 h (fun x29 h => ?_)
            refine k_aload_n o hb dX12_otherGoal_313 rfl 0 rfl ?_
            refine k_iload_n o hb dX12_otherGoal_314 rfl 1 rfl ?_
            refine k_iconst (v := 5) o hb dX12_otherGoal_315 (by decide) ?_
            refine k_iload_n o hb dX12_otherGoal_316 rfl 1 rfl ?_
            refine k_imul o hb dX12_otherGoal_317 ?_
            refine k_iconst (v := 1) o hb dX12_otherGoal_318 (by decide) ?_
            refine k_iadd o hb dX12_otherGoal_319 ?_
            refine k_run_i o (fun _ _ q => q) (k_runV (ci := 12) (rc := (RX12, TX12, 57)) o hb B.hml hown hts rfl (by decide) (T_X12_knownArgument g.l o.hl g.D g.cA h.2) (cwV 2 hts gX12_otherGoal_X12_knownArgument rfl rfl rfl (by decide +kernel) ⟨yle B.hR1 rfl, yle B.hR2 rfl⟩) h.1 rfl rfl (Nat.le_of_ble_eq_true rfl) dX12_otherGoal_320) (fun v31 x30 h => ?_)
            exact k_zret o hb B.hr fr dX12_otherGoal_323 h
          · skip
            refine k_icmp_ne (tgt := 291) o hb dX12_otherGoal_284 (by decide) h (fun h => ?_) (fun h => ?_)
            · skip
              refine k_iconst (v := 2) o hb dX12_otherGoal_287 (by decide) ?_
              refine k_goto (tgt := 302) o hb dX12_otherGoal_288 (by decide) ?_
              exact KW.sub [0, 1] rfl (hj24 2 x19 h)
            · skip
              refine k_iload_n o hb dX12_otherGoal_291 rfl 3 rfl ?_
              refine k_bipush (v := 61) o hb dX12_otherGoal_292 (by decide) ?_
              refine k_icmp_ne (tgt := 301) o hb dX12_otherGoal_294 (by decide) h (fun h => ?_) (fun h => ?_)
              · skip
                refine k_iconst (v := 3) o hb dX12_otherGoal_297 (by decide) ?_
                refine k_goto (tgt := 302) o hb dX12_otherGoal_298 (by decide) ?_
                exact KW.sub [0, 1] rfl (hj24 3 x19 h)
              · skip
                refine k_iconst (v := 4) o hb dX12_otherGoal_301 (by decide) ?_
                exact KW.sub [0, 1] rfl (hj24 4 x19 h)
      · skip
        refine k_icmp_eq (tgt := 259) o hb dX12_otherGoal_235 (by decide) h (fun h => ?_) (fun h => ?_)
        · skip
          exact KW.sub [0, 1, 2, 3] rfl (hj17 x16 h)
        · skip
          refine k_iload_n o hb dX12_otherGoal_238 rfl 3 rfl ?_
          refine k_bipush (v := 61) o hb dX12_otherGoal_239 (by decide) ?_
          refine k_icmp_eq (tgt := 259) o hb dX12_otherGoal_241 (by decide) h (fun h => ?_) (fun h => ?_)
          · skip
            exact KW.sub [0, 1, 2, 3] rfl (hj17 x16 h)
          · skip
            refine k_iload_n o hb dX12_otherGoal_244 rfl 3 rfl ?_
            refine k_bipush (v := 35) o hb dX12_otherGoal_245 (by decide) ?_
            refine k_icmp_eq (tgt := 259) o hb dX12_otherGoal_247 (by decide) h (fun h => ?_) (fun h => ?_)
            · skip
              exact KW.sub [0, 1, 2, 3] rfl (hj17 x16 h)
            · skip
              refine k_aload_n o hb dX12_otherGoal_250 rfl 0 rfl ?_
              refine k_aload_n o hb dX12_otherGoal_251 rfl 0 rfl ?_
              refine k_getI (C := RX12) (T := TX12) (N := 57) o hb hts in12 hown rfl (by decide) 41 (by decide) rfl (hts (.fieldLink RX12 244 "FactKeeperModel" "at" "I") (by decide +kernel)) (fun _ h9 => h9) dX12_otherGoal_252 h (fun v32 h => ?_)
              refine k_run_i o (fun _ _ q => q) (k_runV (ci := 12) (rc := (RX12, TX12, 57)) o hb B.hml hown hts rfl (by decide) (T_X12_wrong g.l o.hl g.D g.cA h.2) (cwV 1 hts gX12_otherGoal_X12_wrong rfl rfl rfl (by decide +kernel) ⟨yle B.hR1 rfl, yle B.hR2 rfl⟩) h.1 rfl rfl (Nat.le_of_ble_eq_true rfl) dX12_otherGoal_255) (fun v34 x33 h => ?_)
              exact k_zret o hb B.hr fr dX12_otherGoal_258 h
    · skip
      refine k_icmp_ne (tgt := 232) o hb dX12_otherGoal_52 (by decide) h (fun h => ?_) (fun h => ?_)
      · skip
        refine k_aload_n o hb dX12_otherGoal_55 rfl 2 rfl ?_
        refine k_getF (C := RX12) (T := TX12) (N := 57) o hb hts in12 hown rfl (by decide) 46 (by decide) rfl (hts (.fieldLink RX12 109 "FactKeeperModel" "sort" "[I") (by decide +kernel)) (fun _ h9 => h9) dX12_otherGoal_56 h (fun v35 h => ?_)
        refine k_iconst (v := 5) o hb dX12_otherGoal_59 (by decide) ?_
        refine k_iload_n o hb dX12_otherGoal_60 rfl 3 rfl ?_
        refine k_imul o hb dX12_otherGoal_61 ?_
        refine k_iald o hb dX12_otherGoal_62 h (fun v36 h => ?_)
        refine k_iconst (v := 1) o hb dX12_otherGoal_63 (by decide) ?_
        refine k_icmp_ne (tgt := 232) o hb dX12_otherGoal_64 (by decide) h (fun h => ?_) (fun h => ?_)
        · skip
          refine k_aload_n o hb dX12_otherGoal_67 rfl 2 rfl ?_
          refine k_iload_n o hb dX12_otherGoal_68 rfl 3 rfl ?_
          refine k_iconst (v := 5) o hb dX12_otherGoal_69 (by decide) ?_
          refine k_iload_n o hb dX12_otherGoal_70 rfl 3 rfl ?_
          refine k_imul o hb dX12_otherGoal_71 ?_
          refine k_run_i o (fun _ _ q => q) (k_runV (ci := 12) (rc := (RX12, TX12, 57)) o hb B.hml hown hts rfl (by decide) (T_X12_isKnown g.l o.hl g.D g.cA h.2) (cwV 2 hts gX12_otherGoal_X12_isKnown rfl rfl rfl (by decide +kernel) ⟨yle B.hR1 rfl, yle B.hR2 rfl⟩) h.1 rfl rfl (Nat.le_of_ble_eq_true rfl) dX12_otherGoal_72) (fun v38 x37 h => ?_)
          refine k_if_eq (tgt := 84) o hb dX12_otherGoal_75 (by decide) h (fun h => ?_) (fun h => ?_)
          · skip
            refine k_aload_n o hb dX12_otherGoal_84 rfl 2 rfl ?_
            refine k_dup o hb dX12_otherGoal_85 ?_
            refine k_getI (C := RX12) (T := TX12) (N := 57) o hb hts in12 hown rfl (by decide) 41 (by decide) rfl (hts (.fieldLink RX12 244 "FactKeeperModel" "at" "I") (by decide +kernel)) (fun _ h9 => h9) dX12_otherGoal_86 h (fun v39 h => ?_)
            refine k_iconst (v := 1) o hb dX12_otherGoal_89 (by decide) ?_
            refine k_iadd o hb dX12_otherGoal_90 ?_
            refine k_putI (C := RX12) (T := TX12) (N := 57) (ty := .int) o hb hts in12 tyX12 tyX12_ok nmX12 hown rfl (by decide) 41 (by decide) rfl (hts (.fieldLink RX12 244 "FactKeeperModel" "at" "I") (by decide +kernel)) (fun _ h9 => h9) rfl (by decide +kernel) (fun _ => rfl) (fun _ => rfl) dX12_otherGoal_91 h (fun x40 h => ?_)
            refine k_aload_n o hb dX12_otherGoal_94 rfl 2 rfl ?_
            refine k_iload_n o hb dX12_otherGoal_95 rfl 3 rfl ?_
            refine k_iconst (v := 5) o hb dX12_otherGoal_96 (by decide) ?_
            refine k_iload_n o hb dX12_otherGoal_97 rfl 3 rfl ?_
            refine k_imul o hb dX12_otherGoal_98 ?_
            refine k_iconst (v := 1) o hb dX12_otherGoal_99 (by decide) ?_
            refine k_iadd o hb dX12_otherGoal_100 ?_
            refine k_run_i o (fun _ _ q => q) (k_runV (ci := 12) (rc := (RX12, TX12, 57)) o hb B.hml hown hts rfl (by decide) (T_X12_knownArgument g.l o.hl g.D g.cA h.2) (cwV 2 hts gX12_otherGoal_X12_knownArgument rfl rfl rfl (by decide +kernel) ⟨yle B.hR1 rfl, yle B.hR2 rfl⟩) h.1 rfl rfl (Nat.le_of_ble_eq_true rfl) dX12_otherGoal_101) (fun v42 x41 h => ?_)
            refine k_if_ne (tgt := 109) o hb dX12_otherGoal_104 (by decide) h (fun h => ?_) (fun h => ?_)
            · skip
              refine k_iconst (v := 0) o hb dX12_otherGoal_107 (by decide) ?_
              exact k_zret o hb B.hr fr dX12_otherGoal_108 h
            · skip
              refine k_aload_n o hb dX12_otherGoal_109 rfl 2 rfl ?_
              refine k_run_v o (fun _ _ q => q) (k_runV (ci := 12) (rc := (RX12, TX12, 57)) o hb B.hml hown hts rfl (by decide) (T_X12_blanks g.l o.hl g.D g.cA h.2) (cwV 0 hts gX12_otherGoal_X12_blanks rfl rfl rfl (by decide +kernel) ⟨yle B.hR1 rfl, yle B.hR2 rfl⟩) h.1 rfl rfl (Nat.le_of_ble_eq_true rfl) dX12_otherGoal_110) (fun x43 h => ?_)
              refine k_aload_n o hb dX12_otherGoal_113 rfl 2 rfl ?_
              refine k_aload_n o hb dX12_otherGoal_114 rfl 2 rfl ?_
              refine k_getI (C := RX12) (T := TX12) (N := 57) o hb hts in12 hown rfl (by decide) 41 (by decide) rfl (hts (.fieldLink RX12 244 "FactKeeperModel" "at" "I") (by decide +kernel)) (fun _ h9 => h9) dX12_otherGoal_115 h (fun v45 h => ?_)
              refine k_run_i o (fun _ _ q => q) (k_runV (ci := 12) (rc := (RX12, TX12, 57)) o hb B.hml hown hts rfl (by decide) (T_X12_byteAt g.l o.hl g.D g.cA h.2) (cwV 1 hts gX12_otherGoal_X12_byteAt rfl rfl rfl (by decide +kernel) ⟨yle B.hR1 rfl, yle B.hR2 rfl⟩) h.1 rfl rfl (Nat.le_of_ble_eq_true rfl) dX12_otherGoal_118) (fun v47 x46 h => ?_)
              refine k_istore o hb dX12_otherGoal_121 rfl ?_
              refine k_iload o hb dX12_otherGoal_123 0 rfl ?_
              refine k_bipush (v := 43) o hb dX12_otherGoal_125 (by decide) ?_
              refine wJoin_elim (M := fun K => ∀  (x49 : HS), K  x49 → KW g 5 153 [(0, .q l0), (1, .i l1), (4, .i v47)] [] x49) h ?_ (fun j48 hj48 h => ?_)
              · skip
                intro  x49 h
                refine k_aload_n o hb dX12_otherGoal_153 rfl 0 rfl ?_
                refine k_getF (C := RX12) (T := TX12) (N := 57) o hb hts in12 hown rfl (by decide) 44 (by decide) rfl (hts (.fieldLink RX12 103 "FactKeeperModel" "goal" "[I") (by decide +kernel)) (fun _ h9 => h9) dX12_otherGoal_154 h (fun v50 h => ?_)
                refine k_iload_n o hb dX12_otherGoal_157 rfl 1 rfl ?_
                refine k_iload o hb dX12_otherGoal_158 2 rfl ?_
                refine k_bipush (v := 43) o hb dX12_otherGoal_160 (by decide) ?_
                refine wJoin_elim (M := fun K => ∀ (v53 : Int32) (x52 : HS), K v53 x52 → KW g 5 183 [(0, .q l0), (1, .i l1)] [.i v53, .i l1, .q v50] x52) h ?_ (fun j51 hj51 h => ?_)
                · skip
                  intro v53 x52 h
                  refine k_iast o hb dX12_otherGoal_183 h (fun x54 h => ?_)
                  refine k_aload_n o hb dX12_otherGoal_184 rfl 0 rfl ?_
                  refine k_dup o hb dX12_otherGoal_185 ?_
                  refine k_getI (C := RX12) (T := TX12) (N := 57) o hb hts in12 hown rfl (by decide) 41 (by decide) rfl (hts (.fieldLink RX12 244 "FactKeeperModel" "at" "I") (by decide +kernel)) (fun _ h9 => h9) dX12_otherGoal_186 h (fun v55 h => ?_)
                  refine k_iconst (v := 1) o hb dX12_otherGoal_189 (by decide) ?_
                  refine k_iadd o hb dX12_otherGoal_190 ?_
                  refine k_putI (C := RX12) (T := TX12) (N := 57) (ty := .int) o hb hts in12 tyX12 tyX12_ok nmX12 hown rfl (by decide) 41 (by decide) rfl (hts (.fieldLink RX12 244 "FactKeeperModel" "at" "I") (by decide +kernel)) (fun _ h9 => h9) rfl (by decide +kernel) (fun _ => rfl) (fun _ => rfl) dX12_otherGoal_191 h (fun x56 h => ?_)
                  refine k_aload_n o hb dX12_otherGoal_194 rfl 0 rfl ?_
                  refine k_iload_n o hb dX12_otherGoal_195 rfl 1 rfl ?_
                  refine k_iconst (v := 5) o hb dX12_otherGoal_196 (by decide) ?_
                  refine k_iload_n o hb dX12_otherGoal_197 rfl 1 rfl ?_
                  refine k_imul o hb dX12_otherGoal_198 ?_
                  refine k_iconst (v := 2) o hb dX12_otherGoal_199 (by decide) ?_
                  refine k_iadd o hb dX12_otherGoal_200 ?_
                  refine k_run_i o (fun _ _ q => q) (k_runV (ci := 12) (rc := (RX12, TX12, 57)) o hb B.hml hown hts rfl (by decide) (T_X12_knownArgument g.l o.hl g.D g.cA h.2) (cwV 2 hts gX12_otherGoal_X12_knownArgument rfl rfl rfl (by decide +kernel) ⟨yle B.hR1 rfl, yle B.hR2 rfl⟩) h.1 rfl rfl (Nat.le_of_ble_eq_true rfl) dX12_otherGoal_201) (fun v58 x57 h => ?_)
                  refine k_if_ne (tgt := 209) o hb dX12_otherGoal_204 (by decide) h (fun h => ?_) (fun h => ?_)
                  · skip
                    refine k_iconst (v := 0) o hb dX12_otherGoal_207 (by decide) ?_
                    exact k_zret o hb B.hr fr dX12_otherGoal_208 h
                  · skip
                    refine k_aload_n o hb dX12_otherGoal_209 rfl 0 rfl ?_
                    refine k_getF (C := RX12) (T := TX12) (N := 57) o hb hts in12 hown rfl (by decide) 48 (by decide) rfl (hts (.fieldLink RX12 115 "FactKeeperModel" "known" "[I") (by decide +kernel)) (fun _ h9 => h9) dX12_otherGoal_210 h (fun v59 h => ?_)
                    refine k_iload_n o hb dX12_otherGoal_213 rfl 1 rfl ?_
                    refine k_iconst (v := 1) o hb dX12_otherGoal_214 (by decide) ?_
                    refine k_iadd o hb dX12_otherGoal_215 ?_
                    refine k_dup2 o hb dX12_otherGoal_216 ?_
                    refine k_iald o hb dX12_otherGoal_217 h (fun v60 h => ?_)
                    refine k_iconst (v := 1) o hb dX12_otherGoal_218 (by decide) ?_
                    refine k_aload_n o hb dX12_otherGoal_219 rfl 0 rfl ?_
                    refine k_getF (C := RX12) (T := TX12) (N := 57) o hb hts in12 hown rfl (by decide) 47 (by decide) rfl (hts (.fieldLink RX12 112 "FactKeeperModel" "argument" "[I") (by decide +kernel)) (fun _ h9 => h9) dX12_otherGoal_220 h (fun v61 h => ?_)
                    refine k_iconst (v := 5) o hb dX12_otherGoal_223 (by decide) ?_
                    refine k_iload_n o hb dX12_otherGoal_224 rfl 1 rfl ?_
                    refine k_imul o hb dX12_otherGoal_225 ?_
                    refine k_iald o hb dX12_otherGoal_226 h (fun v62 h => ?_)
                    refine k_ishl o hb dX12_otherGoal_227 ?_
                    refine k_ior o hb dX12_otherGoal_228 ?_
                    refine k_iast o hb dX12_otherGoal_229 h (fun x63 h => ?_)
                    refine k_iconst (v := 1) o hb dX12_otherGoal_230 (by decide) ?_
                    exact k_zret o hb B.hr fr dX12_otherGoal_231 h
                · skip
                  refine k_icmp_ne (tgt := 169) o hb dX12_otherGoal_162 (by decide) h (fun h => ?_) (fun h => ?_)
                  · skip
                    refine k_iconst (v := 5) o hb dX12_otherGoal_165 (by decide) ?_
                    refine k_goto (tgt := 183) o hb dX12_otherGoal_166 (by decide) ?_
                    exact KW.sub [0, 1] rfl (hj51 5 x49 h)
                  · skip
                    refine k_iload o hb dX12_otherGoal_169 2 rfl ?_
                    refine k_bipush (v := 45) o hb dX12_otherGoal_171 (by decide) ?_
                    refine k_icmp_ne (tgt := 181) o hb dX12_otherGoal_173 (by decide) h (fun h => ?_) (fun h => ?_)
                    · skip
                      refine k_bipush (v := 6) o hb dX12_otherGoal_176 (by decide) ?_
                      refine k_goto (tgt := 183) o hb dX12_otherGoal_178 (by decide) ?_
                      exact KW.sub [0, 1] rfl (hj51 6 x49 h)
                    · skip
                      refine k_bipush (v := 7) o hb dX12_otherGoal_181 (by decide) ?_
                      exact KW.sub [0, 1] rfl (hj51 7 x49 h)
              · skip
                refine k_icmp_eq (tgt := 153) o hb dX12_otherGoal_127 (by decide) h (fun h => ?_) (fun h => ?_)
                · skip
                  exact KW.sub [3, 4, 0] rfl (hj48 x46 h)
                · skip
                  refine k_iload o hb dX12_otherGoal_130 0 rfl ?_
                  refine k_bipush (v := 45) o hb dX12_otherGoal_132 (by decide) ?_
                  refine k_icmp_eq (tgt := 153) o hb dX12_otherGoal_134 (by decide) h (fun h => ?_) (fun h => ?_)
                  · skip
                    exact KW.sub [3, 4, 0] rfl (hj48 x46 h)
                  · skip
                    refine k_iload o hb dX12_otherGoal_137 0 rfl ?_
                    refine k_bipush (v := 42) o hb dX12_otherGoal_139 (by decide) ?_
                    refine k_icmp_eq (tgt := 153) o hb dX12_otherGoal_141 (by decide) h (fun h => ?_) (fun h => ?_)
                    · skip
                      exact KW.sub [3, 4, 0] rfl (hj48 x46 h)
                    · skip
                      refine k_aload_n o hb dX12_otherGoal_144 rfl 3 rfl ?_
                      refine k_aload_n o hb dX12_otherGoal_145 rfl 3 rfl ?_
                      refine k_getI (C := RX12) (T := TX12) (N := 57) o hb hts in12 hown rfl (by decide) 41 (by decide) rfl (hts (.fieldLink RX12 244 "FactKeeperModel" "at" "I") (by decide +kernel)) (fun _ h9 => h9) dX12_otherGoal_146 h (fun v64 h => ?_)
                      refine k_run_i o (fun _ _ q => q) (k_runV (ci := 12) (rc := (RX12, TX12, 57)) o hb B.hml hown hts rfl (by decide) (T_X12_wrong g.l o.hl g.D g.cA h.2) (cwV 1 hts gX12_otherGoal_X12_wrong rfl rfl rfl (by decide +kernel) ⟨yle B.hR1 rfl, yle B.hR2 rfl⟩) h.1 rfl rfl (Nat.le_of_ble_eq_true rfl) dX12_otherGoal_149) (fun v66 x65 h => ?_)
                      exact k_zret o hb B.hr fr dX12_otherGoal_152 h
          · skip
            refine k_aload_n o hb dX12_otherGoal_78 rfl 2 rfl ?_
            refine k_iload_n o hb dX12_otherGoal_79 rfl 1 rfl ?_
            refine k_run_i o (fun _ _ q => q) (k_runV (ci := 12) (rc := (RX12, TX12, 57)) o hb B.hml hown hts rfl (by decide) (T_X12_wrong g.l o.hl g.D g.cA h.2) (cwV 1 hts gX12_otherGoal_X12_wrong rfl rfl rfl (by decide +kernel) ⟨yle B.hR1 rfl, yle B.hR2 rfl⟩) h.1 rfl rfl (Nat.le_of_ble_eq_true rfl) dX12_otherGoal_80) (fun v68 x67 h => ?_)
            exact k_zret o hb B.hr fr dX12_otherGoal_83 h
        · skip
          exact KW.sub [2, 3, 1, 0] rfl (hj15 x13 h)
      · skip
        exact KW.sub [2, 3, 1, 0] rfl (hj15 x13 h)
theorem dX12_isQuestion_0 : decode cX12_isQuestion 0 = .ok (.aload_n 0, 1) := by decide +kernel
theorem dX12_isQuestion_1 : decode cX12_isQuestion 1 = .ok (.iload_n 1, 1) := by decide +kernel
theorem dX12_isQuestion_2 : decode cX12_isQuestion 2 = .ok (.putfield 241, 3) := by decide +kernel
theorem dX12_isQuestion_5 : decode cX12_isQuestion 5 = .ok (.aload_n 0, 1) := by decide +kernel
theorem dX12_isQuestion_6 : decode cX12_isQuestion 6 = .ok (.iconst 0, 1) := by decide +kernel
theorem dX12_isQuestion_7 : decode cX12_isQuestion 7 = .ok (.putfield 244, 3) := by decide +kernel
theorem dX12_isQuestion_10 : decode cX12_isQuestion 10 = .ok (.aload_n 0, 1) := by decide +kernel
theorem dX12_isQuestion_11 : decode cX12_isQuestion 11 = .ok (.iconst 0, 1) := by decide +kernel
theorem dX12_isQuestion_12 : decode cX12_isQuestion 12 = .ok (.putfield 281, 3) := by decide +kernel
theorem dX12_isQuestion_15 : decode cX12_isQuestion 15 = .ok (.aload_n 0, 1) := by decide +kernel
theorem dX12_isQuestion_16 : decode cX12_isQuestion 16 = .ok (.getfield 115, 3) := by decide +kernel
theorem dX12_isQuestion_19 : decode cX12_isQuestion 19 = .ok (.iconst 0, 1) := by decide +kernel
theorem dX12_isQuestion_20 : decode cX12_isQuestion 20 = .ok (.iconst 0, 1) := by decide +kernel
theorem dX12_isQuestion_21 : decode cX12_isQuestion 21 = .ok (.iastore, 1) := by decide +kernel
theorem dX12_isQuestion_22 : decode cX12_isQuestion 22 = .ok (.iconst 1, 1) := by decide +kernel
theorem dX12_isQuestion_23 : decode cX12_isQuestion 23 = .ok (.istore_n 2, 1) := by decide +kernel
theorem dX12_isQuestion_24 : decode cX12_isQuestion 24 = .ok (.iload_n 2, 1) := by decide +kernel
theorem dX12_isQuestion_25 : decode cX12_isQuestion 25 = .ok (.ifCond .eq 168, 3) := by decide +kernel
theorem dX12_isQuestion_28 : decode cX12_isQuestion 28 = .ok (.aload_n 0, 1) := by decide +kernel
theorem dX12_isQuestion_29 : decode cX12_isQuestion 29 = .ok (.invokevirtual 250, 3) := by decide +kernel
theorem dX12_isQuestion_32 : decode cX12_isQuestion 32 = .ok (.aload_n 0, 1) := by decide +kernel
theorem dX12_isQuestion_33 : decode cX12_isQuestion 33 = .ok (.getfield 281, 3) := by decide +kernel
theorem dX12_isQuestion_36 : decode cX12_isQuestion 36 = .ok (.bipush 10, 2) := by decide +kernel
theorem dX12_isQuestion_38 : decode cX12_isQuestion 38 = .ok (.if_icmp .ne 12, 3) := by decide +kernel
theorem dX12_isQuestion_41 : decode cX12_isQuestion 41 = .ok (.aload_n 0, 1) := by decide +kernel
theorem dX12_isQuestion_42 : decode cX12_isQuestion 42 = .ok (.aload_n 0, 1) := by decide +kernel
theorem dX12_isQuestion_43 : decode cX12_isQuestion 43 = .ok (.getfield 244, 3) := by decide +kernel
theorem dX12_isQuestion_46 : decode cX12_isQuestion 46 = .ok (.invokevirtual 266, 3) := by decide +kernel
theorem dX12_isQuestion_49 : decode cX12_isQuestion 49 = .ok (.ireturn, 1) := by decide +kernel
theorem dX12_isQuestion_50 : decode cX12_isQuestion 50 = .ok (.aload_n 0, 1) := by decide +kernel
theorem dX12_isQuestion_51 : decode cX12_isQuestion 51 = .ok (.getfield 103, 3) := by decide +kernel
theorem dX12_isQuestion_54 : decode cX12_isQuestion 54 = .ok (.aload_n 0, 1) := by decide +kernel
theorem dX12_isQuestion_55 : decode cX12_isQuestion 55 = .ok (.getfield 281, 3) := by decide +kernel
theorem dX12_isQuestion_58 : decode cX12_isQuestion 58 = .ok (.iconst 0, 1) := by decide +kernel
theorem dX12_isQuestion_59 : decode cX12_isQuestion 59 = .ok (.iastore, 1) := by decide +kernel
theorem dX12_isQuestion_60 : decode cX12_isQuestion 60 = .ok (.aload_n 0, 1) := by decide +kernel
theorem dX12_isQuestion_61 : decode cX12_isQuestion 61 = .ok (.aload_n 0, 1) := by decide +kernel
theorem dX12_isQuestion_62 : decode cX12_isQuestion 62 = .ok (.getfield 244, 3) := by decide +kernel
theorem dX12_isQuestion_65 : decode cX12_isQuestion 65 = .ok (.invokevirtual 247, 3) := by decide +kernel
theorem dX12_isQuestion_68 : decode cX12_isQuestion 68 = .ok (.bipush 116, 2) := by decide +kernel
theorem dX12_isQuestion_70 : decode cX12_isQuestion 70 = .ok (.if_icmp .ne 15, 3) := by decide +kernel
theorem dX12_isQuestion_73 : decode cX12_isQuestion 73 = .ok (.aload_n 0, 1) := by decide +kernel
theorem dX12_isQuestion_74 : decode cX12_isQuestion 74 = .ok (.aload_n 0, 1) := by decide +kernel
theorem dX12_isQuestion_75 : decode cX12_isQuestion 75 = .ok (.getfield 281, 3) := by decide +kernel
theorem dX12_isQuestion_78 : decode cX12_isQuestion 78 = .ok (.invokevirtual 284, 3) := by decide +kernel
theorem dX12_isQuestion_81 : decode cX12_isQuestion 81 = .ok (.istore_n 3, 1) := by decide +kernel
theorem dX12_isQuestion_82 : decode cX12_isQuestion 82 = .ok (.goto 85, 3) := by decide +kernel
theorem dX12_isQuestion_85 : decode cX12_isQuestion 85 = .ok (.aload_n 0, 1) := by decide +kernel
theorem dX12_isQuestion_86 : decode cX12_isQuestion 86 = .ok (.aload_n 0, 1) := by decide +kernel
theorem dX12_isQuestion_87 : decode cX12_isQuestion 87 = .ok (.getfield 244, 3) := by decide +kernel
theorem dX12_isQuestion_90 : decode cX12_isQuestion 90 = .ok (.invokevirtual 247, 3) := by decide +kernel
theorem dX12_isQuestion_93 : decode cX12_isQuestion 93 = .ok (.bipush 33, 2) := by decide +kernel
theorem dX12_isQuestion_95 : decode cX12_isQuestion 95 = .ok (.if_icmp .ne 63, 3) := by decide +kernel
theorem dX12_isQuestion_98 : decode cX12_isQuestion 98 = .ok (.aload_n 0, 1) := by decide +kernel
theorem dX12_isQuestion_99 : decode cX12_isQuestion 99 = .ok (.dup, 1) := by decide +kernel
theorem dX12_isQuestion_100 : decode cX12_isQuestion 100 = .ok (.getfield 244, 3) := by decide +kernel
theorem dX12_isQuestion_103 : decode cX12_isQuestion 103 = .ok (.iconst 1, 1) := by decide +kernel
theorem dX12_isQuestion_104 : decode cX12_isQuestion 104 = .ok (.iadd, 1) := by decide +kernel
theorem dX12_isQuestion_105 : decode cX12_isQuestion 105 = .ok (.putfield 244, 3) := by decide +kernel
theorem dX12_isQuestion_108 : decode cX12_isQuestion 108 = .ok (.aload_n 0, 1) := by decide +kernel
theorem dX12_isQuestion_109 : decode cX12_isQuestion 109 = .ok (.invokevirtual 250, 3) := by decide +kernel
theorem dX12_isQuestion_112 : decode cX12_isQuestion 112 = .ok (.aload_n 0, 1) := by decide +kernel
theorem dX12_isQuestion_113 : decode cX12_isQuestion 113 = .ok (.getfield 103, 3) := by decide +kernel
theorem dX12_isQuestion_116 : decode cX12_isQuestion 116 = .ok (.aload_n 0, 1) := by decide +kernel
theorem dX12_isQuestion_117 : decode cX12_isQuestion 117 = .ok (.getfield 281, 3) := by decide +kernel
theorem dX12_isQuestion_120 : decode cX12_isQuestion 120 = .ok (.iconst 1, 1) := by decide +kernel
theorem dX12_isQuestion_121 : decode cX12_isQuestion 121 = .ok (.iastore, 1) := by decide +kernel
theorem dX12_isQuestion_122 : decode cX12_isQuestion 122 = .ok (.aload_n 0, 1) := by decide +kernel
theorem dX12_isQuestion_123 : decode cX12_isQuestion 123 = .ok (.aload_n 0, 1) := by decide +kernel
theorem dX12_isQuestion_124 : decode cX12_isQuestion 124 = .ok (.getfield 244, 3) := by decide +kernel
theorem dX12_isQuestion_127 : decode cX12_isQuestion 127 = .ok (.invokevirtual 247, 3) := by decide +kernel
theorem dX12_isQuestion_130 : decode cX12_isQuestion 130 = .ok (.bipush 116, 2) := by decide +kernel
theorem dX12_isQuestion_132 : decode cX12_isQuestion 132 = .ok (.if_icmp .ne 14, 3) := by decide +kernel
theorem dX12_isQuestion_135 : decode cX12_isQuestion 135 = .ok (.aload_n 0, 1) := by decide +kernel
theorem dX12_isQuestion_136 : decode cX12_isQuestion 136 = .ok (.aload_n 0, 1) := by decide +kernel
theorem dX12_isQuestion_137 : decode cX12_isQuestion 137 = .ok (.getfield 281, 3) := by decide +kernel
theorem dX12_isQuestion_140 : decode cX12_isQuestion 140 = .ok (.invokevirtual 284, 3) := by decide +kernel
theorem dX12_isQuestion_143 : decode cX12_isQuestion 143 = .ok (.goto 11, 3) := by decide +kernel
theorem dX12_isQuestion_146 : decode cX12_isQuestion 146 = .ok (.aload_n 0, 1) := by decide +kernel
theorem dX12_isQuestion_147 : decode cX12_isQuestion 147 = .ok (.aload_n 0, 1) := by decide +kernel
theorem dX12_isQuestion_148 : decode cX12_isQuestion 148 = .ok (.getfield 244, 3) := by decide +kernel
theorem dX12_isQuestion_151 : decode cX12_isQuestion 151 = .ok (.invokevirtual 266, 3) := by decide +kernel
theorem dX12_isQuestion_154 : decode cX12_isQuestion 154 = .ok (.istore_n 3, 1) := by decide +kernel
theorem dX12_isQuestion_155 : decode cX12_isQuestion 155 = .ok (.goto 12, 3) := by decide +kernel
theorem dX12_isQuestion_158 : decode cX12_isQuestion 158 = .ok (.aload_n 0, 1) := by decide +kernel
theorem dX12_isQuestion_159 : decode cX12_isQuestion 159 = .ok (.aload_n 0, 1) := by decide +kernel
theorem dX12_isQuestion_160 : decode cX12_isQuestion 160 = .ok (.getfield 281, 3) := by decide +kernel
theorem dX12_isQuestion_163 : decode cX12_isQuestion 163 = .ok (.invokevirtual 287, 3) := by decide +kernel
theorem dX12_isQuestion_166 : decode cX12_isQuestion 166 = .ok (.istore_n 3, 1) := by decide +kernel
theorem dX12_isQuestion_167 : decode cX12_isQuestion 167 = .ok (.iload_n 3, 1) := by decide +kernel
theorem dX12_isQuestion_168 : decode cX12_isQuestion 168 = .ok (.ifCond .ne 5, 3) := by decide +kernel
theorem dX12_isQuestion_171 : decode cX12_isQuestion 171 = .ok (.iconst 0, 1) := by decide +kernel
theorem dX12_isQuestion_172 : decode cX12_isQuestion 172 = .ok (.ireturn, 1) := by decide +kernel
theorem dX12_isQuestion_173 : decode cX12_isQuestion 173 = .ok (.aload_n 0, 1) := by decide +kernel
theorem dX12_isQuestion_174 : decode cX12_isQuestion 174 = .ok (.dup, 1) := by decide +kernel
theorem dX12_isQuestion_175 : decode cX12_isQuestion 175 = .ok (.getfield 281, 3) := by decide +kernel
theorem dX12_isQuestion_178 : decode cX12_isQuestion 178 = .ok (.iconst 1, 1) := by decide +kernel
theorem dX12_isQuestion_179 : decode cX12_isQuestion 179 = .ok (.iadd, 1) := by decide +kernel
theorem dX12_isQuestion_180 : decode cX12_isQuestion 180 = .ok (.putfield 281, 3) := by decide +kernel
theorem dX12_isQuestion_183 : decode cX12_isQuestion 183 = .ok (.aload_n 0, 1) := by decide +kernel
theorem dX12_isQuestion_184 : decode cX12_isQuestion 184 = .ok (.bipush 44, 2) := by decide +kernel
theorem dX12_isQuestion_186 : decode cX12_isQuestion 186 = .ok (.invokevirtual 269, 3) := by decide +kernel
theorem dX12_isQuestion_189 : decode cX12_isQuestion 189 = .ok (.istore_n 2, 1) := by decide +kernel
theorem dX12_isQuestion_190 : decode cX12_isQuestion 190 = .ok (.goto (-166), 3) := by decide +kernel
theorem dX12_isQuestion_193 : decode cX12_isQuestion 193 = .ok (.aload_n 0, 1) := by decide +kernel
theorem dX12_isQuestion_194 : decode cX12_isQuestion 194 = .ok (.invokevirtual 250, 3) := by decide +kernel
theorem dX12_isQuestion_197 : decode cX12_isQuestion 197 = .ok (.aload_n 0, 1) := by decide +kernel
theorem dX12_isQuestion_198 : decode cX12_isQuestion 198 = .ok (.getfield 244, 3) := by decide +kernel
theorem dX12_isQuestion_201 : decode cX12_isQuestion 201 = .ok (.aload_n 0, 1) := by decide +kernel
theorem dX12_isQuestion_202 : decode cX12_isQuestion 202 = .ok (.getfield 241, 3) := by decide +kernel
theorem dX12_isQuestion_205 : decode cX12_isQuestion 205 = .ok (.if_icmp .eq 14, 3) := by decide +kernel
theorem dX12_isQuestion_208 : decode cX12_isQuestion 208 = .ok (.aload_n 0, 1) := by decide +kernel
theorem dX12_isQuestion_209 : decode cX12_isQuestion 209 = .ok (.aload_n 0, 1) := by decide +kernel
theorem dX12_isQuestion_210 : decode cX12_isQuestion 210 = .ok (.getfield 244, 3) := by decide +kernel
theorem dX12_isQuestion_213 : decode cX12_isQuestion 213 = .ok (.invokevirtual 266, 3) := by decide +kernel
theorem dX12_isQuestion_216 : decode cX12_isQuestion 216 = .ok (.ifCond .eq 7, 3) := by decide +kernel
theorem dX12_isQuestion_219 : decode cX12_isQuestion 219 = .ok (.iconst 1, 1) := by decide +kernel
theorem dX12_isQuestion_220 : decode cX12_isQuestion 220 = .ok (.goto 4, 3) := by decide +kernel
theorem dX12_isQuestion_223 : decode cX12_isQuestion 223 = .ok (.iconst 0, 1) := by decide +kernel
theorem dX12_isQuestion_224 : decode cX12_isQuestion 224 = .ok (.ireturn, 1) := by decide +kernel
theorem i9wsX12_isQuestion_0 : ∀ w ∈ wsX12_isQuestion_r1, w ∈ wsX12_isQuestion := fun _ h => (List.mem_cons_of_mem _ (List.mem_append_left _ (List.mem_append_left _ h)))
theorem i9wsX12_isQuestion_3 : ∀ w ∈ wsX120, w ∈ wsX12_isQuestion := fun _ h => (List.mem_cons_of_mem _ (List.mem_append_right _ h))
set_option maxRecDepth 20000 in
theorem ggX12_isQuestion_X12_blanks : GoodIn wsX12_isQuestion wsX12_blanks := (gin_c (mem_at i9wsX12_isQuestion_0 9 rfl) rfl (goodIn_app (gin_c (mem_at i9wsX12_isQuestion_0 1 rfl) rfl (gin_c (mem_at i9wsX12_isQuestion_0 10 rfl) rfl (gin_c (mem_at i9wsX12_isQuestion_0 11 rfl) rfl (gin_c (mem_at i9wsX12_isQuestion_0 12 rfl) rfl (gin_c (mem_at i9wsX12_isQuestion_0 8 rfl) rfl (gin_c (mem_at i9wsX12_isQuestion_0 13 rfl) rfl (gin_c (mem_at i9wsX12_isQuestion_0 0 rfl) rfl (gin_c (mem_at i9wsX12_isQuestion_0 14 rfl) rfl gin_n)))))))) (goodIn_sub i9wsX12_isQuestion_3 g9_16)))
set_option maxRecDepth 20000 in
theorem gX12_isQuestion_X12_blanks : GoodIn wsX12_isQuestion (wsV RX12 250 RX12 yX12_blanks wsX12_blanks) := goodIn_app (gin_c (mem_at i9wsX12_isQuestion_0 5 rfl) rfl (gin_c (mem_at i9wsX12_isQuestion_0 6 rfl) rfl (gin_c (mem_at i9wsX12_isQuestion_0 7 rfl) rfl (gin_c (mem_at i9wsX12_isQuestion_0 8 rfl) rfl gin_n)))) ggX12_isQuestion_X12_blanks
set_option maxRecDepth 20000 in
theorem ggX12_isQuestion_X12_wrong : GoodIn wsX12_isQuestion wsX12_wrong := (gin_c (mem_at i9wsX12_isQuestion_0 18 rfl) rfl (goodIn_app (gin_c (mem_at i9wsX12_isQuestion_0 0 rfl) rfl (gin_c (mem_at i9wsX12_isQuestion_0 19 rfl) rfl gin_n)) (goodIn_sub i9wsX12_isQuestion_3 g9_16)))
set_option maxRecDepth 20000 in
theorem gX12_isQuestion_X12_wrong : GoodIn wsX12_isQuestion (wsV RX12 266 RX12 yX12_wrong wsX12_wrong) := goodIn_app (gin_c (mem_at i9wsX12_isQuestion_0 15 rfl) rfl (gin_c (mem_at i9wsX12_isQuestion_0 16 rfl) rfl (gin_c (mem_at i9wsX12_isQuestion_0 17 rfl) rfl (gin_c (mem_at i9wsX12_isQuestion_0 8 rfl) rfl gin_n)))) ggX12_isQuestion_X12_wrong
set_option maxRecDepth 20000 in
theorem ggX12_isQuestion_X12_byteAt : GoodIn wsX12_isQuestion wsX12_byteAt := (gin_c (mem_at i9wsX12_isQuestion_0 13 rfl) rfl (goodIn_app (gin_c (mem_at i9wsX12_isQuestion_0 0 rfl) rfl (gin_c (mem_at i9wsX12_isQuestion_0 14 rfl) rfl gin_n)) (goodIn_sub i9wsX12_isQuestion_3 g9_16)))
set_option maxRecDepth 20000 in
theorem gX12_isQuestion_X12_byteAt : GoodIn wsX12_isQuestion (wsV RX12 247 RX12 yX12_byteAt wsX12_byteAt) := goodIn_app (gin_c (mem_at i9wsX12_isQuestion_0 10 rfl) rfl (gin_c (mem_at i9wsX12_isQuestion_0 11 rfl) rfl (gin_c (mem_at i9wsX12_isQuestion_0 12 rfl) rfl (gin_c (mem_at i9wsX12_isQuestion_0 8 rfl) rfl gin_n)))) ggX12_isQuestion_X12_byteAt
theorem i9wsX12_isQuestion_1 : ∀ w ∈ wsX12_isQuestion_r2, w ∈ wsX12_isQuestion := fun _ h => (List.mem_cons_of_mem _ (List.mem_append_left _ (List.mem_append_right _ (List.mem_append_left _ h))))
theorem i9wsX12_isQuestion_2 : ∀ w ∈ wsX12_isQuestion_r3, w ∈ wsX12_isQuestion := fun _ h => (List.mem_cons_of_mem _ (List.mem_append_left _ (List.mem_append_right _ (List.mem_append_right _ h))))
set_option maxRecDepth 20000 in
theorem ggX12_isQuestion_X12_tableGoal : GoodIn wsX12_isQuestion wsX12_tableGoal := (gin_c (mem_at i9wsX12_isQuestion_0 23 rfl) rfl (goodIn_app (goodIn_app (gin_c (mem_at i9wsX12_isQuestion_0 1 rfl) rfl (gin_c (mem_at i9wsX12_isQuestion_1 0 rfl) rfl (gin_c (mem_at i9wsX12_isQuestion_1 1 rfl) rfl (gin_c (mem_at i9wsX12_isQuestion_1 2 rfl) rfl (gin_c (mem_at i9wsX12_isQuestion_0 3 rfl) rfl (gin_c (mem_at i9wsX12_isQuestion_0 4 rfl) rfl (gin_c (mem_at i9wsX12_isQuestion_1 3 rfl) rfl (gin_c (mem_at i9wsX12_isQuestion_1 4 rfl) rfl (gin_c (mem_at i9wsX12_isQuestion_1 5 rfl) rfl (gin_c (mem_at i9wsX12_isQuestion_1 6 rfl) rfl (gin_c (mem_at i9wsX12_isQuestion_1 7 rfl) rfl (gin_c (mem_at i9wsX12_isQuestion_0 8 rfl) rfl (gin_c (mem_at i9wsX12_isQuestion_1 8 rfl) rfl (gin_c (mem_at i9wsX12_isQuestion_0 10 rfl) rfl (gin_c (mem_at i9wsX12_isQuestion_0 11 rfl) rfl (gin_c (mem_at i9wsX12_isQuestion_0 12 rfl) rfl (gin_c (mem_at i9wsX12_isQuestion_0 13 rfl) rfl (gin_c (mem_at i9wsX12_isQuestion_0 0 rfl) rfl (gin_c (mem_at i9wsX12_isQuestion_0 14 rfl) rfl (gin_c (mem_at i9wsX12_isQuestion_1 9 rfl) rfl (gin_c (mem_at i9wsX12_isQuestion_1 10 rfl) rfl (gin_c (mem_at i9wsX12_isQuestion_1 11 rfl) rfl (gin_c (mem_at i9wsX12_isQuestion_1 12 rfl) rfl (gin_c (mem_at i9wsX12_isQuestion_0 15 rfl) rfl gin_n)))))))))))))))))))))))) (goodIn_app (gin_c (mem_at i9wsX12_isQuestion_0 16 rfl) rfl (gin_c (mem_at i9wsX12_isQuestion_0 17 rfl) rfl (gin_c (mem_at i9wsX12_isQuestion_0 18 rfl) rfl (gin_c (mem_at i9wsX12_isQuestion_0 19 rfl) rfl (gin_c (mem_at i9wsX12_isQuestion_1 13 rfl) rfl (gin_c (mem_at i9wsX12_isQuestion_1 14 rfl) rfl (gin_c (mem_at i9wsX12_isQuestion_1 15 rfl) rfl (gin_c (mem_at i9wsX12_isQuestion_1 16 rfl) rfl (gin_c (mem_at i9wsX12_isQuestion_1 17 rfl) rfl (gin_c (mem_at i9wsX12_isQuestion_1 18 rfl) rfl (gin_c (mem_at i9wsX12_isQuestion_1 19 rfl) rfl (gin_c (mem_at i9wsX12_isQuestion_1 20 rfl) rfl (gin_c (mem_at i9wsX12_isQuestion_1 21 rfl) rfl (gin_c (mem_at i9wsX12_isQuestion_1 22 rfl) rfl (gin_c (mem_at i9wsX12_isQuestion_1 23 rfl) rfl (gin_c (mem_at i9wsX12_isQuestion_2 0 rfl) rfl (gin_c (mem_at i9wsX12_isQuestion_2 1 rfl) rfl (gin_c (mem_at i9wsX12_isQuestion_0 5 rfl) rfl (gin_c (mem_at i9wsX12_isQuestion_0 6 rfl) rfl (gin_c (mem_at i9wsX12_isQuestion_0 7 rfl) rfl (gin_c (mem_at i9wsX12_isQuestion_0 9 rfl) rfl (gin_c (mem_at i9wsX12_isQuestion_2 2 rfl) rfl (gin_c (mem_at i9wsX12_isQuestion_2 3 rfl) rfl (gin_c (mem_at i9wsX12_isQuestion_2 4 rfl) rfl gin_n)))))))))))))))))))))))) (gin_c (mem_at i9wsX12_isQuestion_2 5 rfl) rfl gin_n))) (goodIn_sub i9wsX12_isQuestion_3 g9_16)))
set_option maxRecDepth 20000 in
theorem gX12_isQuestion_X12_tableGoal : GoodIn wsX12_isQuestion (wsV RX12 284 RX12 yX12_tableGoal wsX12_tableGoal) := goodIn_app (gin_c (mem_at i9wsX12_isQuestion_0 20 rfl) rfl (gin_c (mem_at i9wsX12_isQuestion_0 21 rfl) rfl (gin_c (mem_at i9wsX12_isQuestion_0 22 rfl) rfl (gin_c (mem_at i9wsX12_isQuestion_0 8 rfl) rfl gin_n)))) ggX12_isQuestion_X12_tableGoal
set_option maxRecDepth 20000 in
theorem ggX12_isQuestion_X12_otherGoal : GoodIn wsX12_isQuestion wsX12_otherGoal := (gin_c (mem_at i9wsX12_isQuestion_2 9 rfl) rfl (goodIn_app (goodIn_app (gin_c (mem_at i9wsX12_isQuestion_0 1 rfl) rfl (gin_c (mem_at i9wsX12_isQuestion_0 3 rfl) rfl (gin_c (mem_at i9wsX12_isQuestion_1 3 rfl) rfl (gin_c (mem_at i9wsX12_isQuestion_0 4 rfl) rfl (gin_c (mem_at i9wsX12_isQuestion_1 4 rfl) rfl (gin_c (mem_at i9wsX12_isQuestion_2 2 rfl) rfl (gin_c (mem_at i9wsX12_isQuestion_2 3 rfl) rfl (gin_c (mem_at i9wsX12_isQuestion_2 4 rfl) rfl (gin_c (mem_at i9wsX12_isQuestion_0 8 rfl) rfl (gin_c (mem_at i9wsX12_isQuestion_2 5 rfl) rfl (gin_c (mem_at i9wsX12_isQuestion_1 1 rfl) rfl (gin_c (mem_at i9wsX12_isQuestion_0 5 rfl) rfl (gin_c (mem_at i9wsX12_isQuestion_0 6 rfl) rfl (gin_c (mem_at i9wsX12_isQuestion_0 7 rfl) rfl (gin_c (mem_at i9wsX12_isQuestion_0 9 rfl) rfl (gin_c (mem_at i9wsX12_isQuestion_0 10 rfl) rfl (gin_c (mem_at i9wsX12_isQuestion_0 11 rfl) rfl (gin_c (mem_at i9wsX12_isQuestion_0 12 rfl) rfl (gin_c (mem_at i9wsX12_isQuestion_0 13 rfl) rfl (gin_c (mem_at i9wsX12_isQuestion_0 0 rfl) rfl (gin_c (mem_at i9wsX12_isQuestion_0 14 rfl) rfl (gin_c (mem_at i9wsX12_isQuestion_1 9 rfl) rfl (gin_c (mem_at i9wsX12_isQuestion_1 10 rfl) rfl (gin_c (mem_at i9wsX12_isQuestion_1 11 rfl) rfl gin_n)))))))))))))))))))))))) (gin_c (mem_at i9wsX12_isQuestion_1 12 rfl) rfl (gin_c (mem_at i9wsX12_isQuestion_1 13 rfl) rfl (gin_c (mem_at i9wsX12_isQuestion_1 14 rfl) rfl (gin_c (mem_at i9wsX12_isQuestion_1 15 rfl) rfl (gin_c (mem_at i9wsX12_isQuestion_1 16 rfl) rfl (gin_c (mem_at i9wsX12_isQuestion_1 5 rfl) rfl (gin_c (mem_at i9wsX12_isQuestion_1 6 rfl) rfl (gin_c (mem_at i9wsX12_isQuestion_1 7 rfl) rfl (gin_c (mem_at i9wsX12_isQuestion_1 8 rfl) rfl (gin_c (mem_at i9wsX12_isQuestion_0 15 rfl) rfl (gin_c (mem_at i9wsX12_isQuestion_0 16 rfl) rfl (gin_c (mem_at i9wsX12_isQuestion_0 17 rfl) rfl (gin_c (mem_at i9wsX12_isQuestion_0 18 rfl) rfl (gin_c (mem_at i9wsX12_isQuestion_0 19 rfl) rfl (gin_c (mem_at i9wsX12_isQuestion_2 10 rfl) rfl (gin_c (mem_at i9wsX12_isQuestion_2 11 rfl) rfl (gin_c (mem_at i9wsX12_isQuestion_2 12 rfl) rfl (gin_c (mem_at i9wsX12_isQuestion_2 13 rfl) rfl (gin_c (mem_at i9wsX12_isQuestion_2 14 rfl) rfl (gin_c (mem_at i9wsX12_isQuestion_2 15 rfl) rfl (gin_c (mem_at i9wsX12_isQuestion_2 16 rfl) rfl (gin_c (mem_at i9wsX12_isQuestion_2 17 rfl) rfl gin_n))))))))))))))))))))))) (goodIn_sub i9wsX12_isQuestion_3 g9_16)))
set_option maxRecDepth 20000 in
theorem gX12_isQuestion_X12_otherGoal : GoodIn wsX12_isQuestion (wsV RX12 287 RX12 yX12_otherGoal wsX12_otherGoal) := goodIn_app (gin_c (mem_at i9wsX12_isQuestion_2 6 rfl) rfl (gin_c (mem_at i9wsX12_isQuestion_2 7 rfl) rfl (gin_c (mem_at i9wsX12_isQuestion_2 8 rfl) rfl (gin_c (mem_at i9wsX12_isQuestion_0 8 rfl) rfl gin_n)))) ggX12_isQuestion_X12_otherGoal
set_option maxRecDepth 20000 in
theorem ggX12_isQuestion_X12_take : GoodIn wsX12_isQuestion wsX12_take := (gin_c (mem_at i9wsX12_isQuestion_2 1 rfl) rfl (goodIn_app (gin_c (mem_at i9wsX12_isQuestion_0 1 rfl) rfl (gin_c (mem_at i9wsX12_isQuestion_0 5 rfl) rfl (gin_c (mem_at i9wsX12_isQuestion_0 6 rfl) rfl (gin_c (mem_at i9wsX12_isQuestion_0 7 rfl) rfl (gin_c (mem_at i9wsX12_isQuestion_0 8 rfl) rfl (gin_c (mem_at i9wsX12_isQuestion_0 9 rfl) rfl (gin_c (mem_at i9wsX12_isQuestion_0 10 rfl) rfl (gin_c (mem_at i9wsX12_isQuestion_0 11 rfl) rfl (gin_c (mem_at i9wsX12_isQuestion_0 12 rfl) rfl (gin_c (mem_at i9wsX12_isQuestion_0 13 rfl) rfl (gin_c (mem_at i9wsX12_isQuestion_0 0 rfl) rfl (gin_c (mem_at i9wsX12_isQuestion_0 14 rfl) rfl gin_n)))))))))))) (goodIn_sub i9wsX12_isQuestion_3 g9_16)))
set_option maxRecDepth 20000 in
theorem gX12_isQuestion_X12_take : GoodIn wsX12_isQuestion (wsV RX12 269 RX12 yX12_take wsX12_take) := goodIn_app (gin_c (mem_at i9wsX12_isQuestion_1 22 rfl) rfl (gin_c (mem_at i9wsX12_isQuestion_1 23 rfl) rfl (gin_c (mem_at i9wsX12_isQuestion_2 0 rfl) rfl (gin_c (mem_at i9wsX12_isQuestion_0 8 rfl) rfl gin_n)))) ggX12_isQuestion_X12_take
set_option maxHeartbeats 4000000 in
set_option maxRecDepth 100000 in
theorem T_X12_isQuestion (l : Launch) (hl : l.stackTraces = false) (D : va_G) (cA : Nat → ClassId) {l0 : Option Nat} {l1 : Int32} {x : HS} {Q : Int32 → HS → Prop} {X : String → HS → Prop} (h : w_X12_isQuestion l0 l1 x Q X) : YI l yX12_isQuestion wsX12_isQuestion 6 138 D cA [.q l0, .i l1] x Q X := by
  refine YI.of (cc := cX12_isQuestion) (maxL := 4) (ret := (some .boolean)) hl (by decide) rfl rfl (fun g B fr => ?_)
  have o := B.o
  have hb := B.hb
  have hts := B.hts
  have hown : g.s.vm.findClass RX12 = some g.m.cls := B.hown
  have in12 : ∀ w ∈ u_ws RX12 TX12 57, w ∈ wsX12_isQuestion := fun w h => (List.mem_cons_of_mem _ (List.mem_append_right _ h))
  unfold w_X12_isQuestion at h
  show KW g 4 0 [(0, .q l0), (1, .i l1)] [] x
  refine k_aload_n o hb dX12_isQuestion_0 rfl 0 rfl ?_
  refine k_iload_n o hb dX12_isQuestion_1 rfl 1 rfl ?_
  refine k_putI (C := RX12) (T := TX12) (N := 57) (ty := .int) o hb hts in12 tyX12 tyX12_ok nmX12 hown rfl (by decide) 40 (by decide) rfl (hts (.fieldLink RX12 241 "FactKeeperModel" "length" "I") (by decide +kernel)) (fun _ h9 => h9) rfl (by decide +kernel) (fun _ => rfl) (fun _ => rfl) dX12_isQuestion_2 h (fun x1 h => ?_)
  refine k_aload_n o hb dX12_isQuestion_5 rfl 0 rfl ?_
  refine k_iconst (v := 0) o hb dX12_isQuestion_6 (by decide) ?_
  refine k_putI (C := RX12) (T := TX12) (N := 57) (ty := .int) o hb hts in12 tyX12 tyX12_ok nmX12 hown rfl (by decide) 41 (by decide) rfl (hts (.fieldLink RX12 244 "FactKeeperModel" "at" "I") (by decide +kernel)) (fun _ h9 => h9) rfl (by decide +kernel) (fun _ => rfl) (fun _ => rfl) dX12_isQuestion_7 h (fun x2 h => ?_)
  refine k_aload_n o hb dX12_isQuestion_10 rfl 0 rfl ?_
  refine k_iconst (v := 0) o hb dX12_isQuestion_11 (by decide) ?_
  refine k_putI (C := RX12) (T := TX12) (N := 57) (ty := .int) o hb hts in12 tyX12 tyX12_ok nmX12 hown rfl (by decide) 49 (by decide) rfl (hts (.fieldLink RX12 281 "FactKeeperModel" "goals" "I") (by decide +kernel)) (fun _ h9 => h9) rfl (by decide +kernel) (fun _ => rfl) (fun _ => rfl) dX12_isQuestion_12 h (fun x3 h => ?_)
  refine k_aload_n o hb dX12_isQuestion_15 rfl 0 rfl ?_
  refine k_getF (C := RX12) (T := TX12) (N := 57) o hb hts in12 hown rfl (by decide) 48 (by decide) rfl (hts (.fieldLink RX12 115 "FactKeeperModel" "known" "[I") (by decide +kernel)) (fun _ h9 => h9) dX12_isQuestion_16 h (fun v4 h => ?_)
  refine k_iconst (v := 0) o hb dX12_isQuestion_19 (by decide) ?_
  refine k_iconst (v := 0) o hb dX12_isQuestion_20 (by decide) ?_
  refine k_iast o hb dX12_isQuestion_21 h (fun x5 h => ?_)
  refine k_iconst (v := 1) o hb dX12_isQuestion_22 (by decide) ?_
  refine k_istore_n o hb dX12_isQuestion_23 rfl rfl ?_
  refine KW.sub [1, 0] rfl ?_
  refine wLoop_elim (M := fun (v9 : Int32) (x8 : HS) => KW g 4 24 [(0, .q l0), (2, .i v9)] [] x8) h ?_
  intro v9 x8 again6 ih7 h
  refine k_iload_n o hb dX12_isQuestion_24 rfl 1 rfl ?_
  refine k_if_eq (tgt := 193) o hb dX12_isQuestion_25 (by decide) h (fun h => ?_) (fun h => ?_)
  · skip
    refine k_aload_n o hb dX12_isQuestion_193 rfl 0 rfl ?_
    refine k_run_v o (fun _ _ q => q) (k_runV (ci := 12) (rc := (RX12, TX12, 57)) o hb B.hml hown hts rfl (by decide) (T_X12_blanks g.l o.hl g.D g.cA h.2) (cwV 0 hts gX12_isQuestion_X12_blanks rfl rfl rfl (by decide +kernel) ⟨yle B.hR1 rfl, yle B.hR2 rfl⟩) h.1 rfl rfl (Nat.le_of_ble_eq_true rfl) dX12_isQuestion_194) (fun x10 h => ?_)
    refine k_aload_n o hb dX12_isQuestion_197 rfl 0 rfl ?_
    refine k_getI (C := RX12) (T := TX12) (N := 57) o hb hts in12 hown rfl (by decide) 41 (by decide) rfl (hts (.fieldLink RX12 244 "FactKeeperModel" "at" "I") (by decide +kernel)) (fun _ h9 => h9) dX12_isQuestion_198 h (fun v12 h => ?_)
    refine k_aload_n o hb dX12_isQuestion_201 rfl 0 rfl ?_
    refine k_getI (C := RX12) (T := TX12) (N := 57) o hb hts in12 hown rfl (by decide) 40 (by decide) rfl (hts (.fieldLink RX12 241 "FactKeeperModel" "length" "I") (by decide +kernel)) (fun _ h9 => h9) dX12_isQuestion_202 h (fun v13 h => ?_)
    refine wJoin_elim (M := fun K => ∀ (v16 : Int32) (x15 : HS), K v16 x15 → KW g 4 224 [] [.i v16] x15) h ?_ (fun j14 hj14 h => ?_)
    · skip
      intro v16 x15 h
      exact k_zret o hb B.hr fr dX12_isQuestion_224 h
    · skip
      refine wJoin_elim (M := fun K => ∀  (x18 : HS), K  x18 → KW g 4 219 [] [] x18) h ?_ (fun j17 hj17 h => ?_)
      · skip
        intro  x18 h
        refine k_iconst (v := 1) o hb dX12_isQuestion_219 (by decide) ?_
        refine k_goto (tgt := 224) o hb dX12_isQuestion_220 (by decide) ?_
        exact KW.sub [] rfl (hj14 1 x18 h)
      · skip
        refine k_icmp_eq (tgt := 219) o hb dX12_isQuestion_205 (by decide) h (fun h => ?_) (fun h => ?_)
        · skip
          exact KW.sub [] rfl (hj17 x10 h)
        · skip
          refine k_aload_n o hb dX12_isQuestion_208 rfl 0 rfl ?_
          refine k_aload_n o hb dX12_isQuestion_209 rfl 0 rfl ?_
          refine k_getI (C := RX12) (T := TX12) (N := 57) o hb hts in12 hown rfl (by decide) 41 (by decide) rfl (hts (.fieldLink RX12 244 "FactKeeperModel" "at" "I") (by decide +kernel)) (fun _ h9 => h9) dX12_isQuestion_210 h (fun v19 h => ?_)
          refine k_run_i o (fun _ _ q => q) (k_runV (ci := 12) (rc := (RX12, TX12, 57)) o hb B.hml hown hts rfl (by decide) (T_X12_wrong g.l o.hl g.D g.cA h.2) (cwV 1 hts gX12_isQuestion_X12_wrong rfl rfl rfl (by decide +kernel) ⟨yle B.hR1 rfl, yle B.hR2 rfl⟩) h.1 rfl rfl (Nat.le_of_ble_eq_true rfl) dX12_isQuestion_213) (fun v21 x20 h => ?_)
          refine k_if_eq (tgt := 223) o hb dX12_isQuestion_216 (by decide) h (fun h => ?_) (fun h => ?_)
          · skip
            refine k_iconst (v := 0) o hb dX12_isQuestion_223 (by decide) ?_
            exact KW.sub [] rfl (hj14 0 x20 h)
          · skip
            exact KW.sub [] rfl (hj17 x20 h)
  · skip
    refine k_aload_n o hb dX12_isQuestion_28 rfl 0 rfl ?_
    refine k_run_v o (fun _ _ q => q) (k_runV (ci := 12) (rc := (RX12, TX12, 57)) o hb B.hml hown hts rfl (by decide) (T_X12_blanks g.l o.hl g.D g.cA h.2) (cwV 0 hts gX12_isQuestion_X12_blanks rfl rfl rfl (by decide +kernel) ⟨yle B.hR1 rfl, yle B.hR2 rfl⟩) h.1 rfl rfl (Nat.le_of_ble_eq_true rfl) dX12_isQuestion_29) (fun x22 h => ?_)
    refine k_aload_n o hb dX12_isQuestion_32 rfl 0 rfl ?_
    refine k_getI (C := RX12) (T := TX12) (N := 57) o hb hts in12 hown rfl (by decide) 49 (by decide) rfl (hts (.fieldLink RX12 281 "FactKeeperModel" "goals" "I") (by decide +kernel)) (fun _ h9 => h9) dX12_isQuestion_33 h (fun v24 h => ?_)
    refine k_bipush (v := 10) o hb dX12_isQuestion_36 (by decide) ?_
    refine k_icmp_ne (tgt := 50) o hb dX12_isQuestion_38 (by decide) h (fun h => ?_) (fun h => ?_)
    · skip
      refine k_aload_n o hb dX12_isQuestion_41 rfl 0 rfl ?_
      refine k_aload_n o hb dX12_isQuestion_42 rfl 0 rfl ?_
      refine k_getI (C := RX12) (T := TX12) (N := 57) o hb hts in12 hown rfl (by decide) 41 (by decide) rfl (hts (.fieldLink RX12 244 "FactKeeperModel" "at" "I") (by decide +kernel)) (fun _ h9 => h9) dX12_isQuestion_43 h (fun v25 h => ?_)
      refine k_run_i o (fun _ _ q => q) (k_runV (ci := 12) (rc := (RX12, TX12, 57)) o hb B.hml hown hts rfl (by decide) (T_X12_wrong g.l o.hl g.D g.cA h.2) (cwV 1 hts gX12_isQuestion_X12_wrong rfl rfl rfl (by decide +kernel) ⟨yle B.hR1 rfl, yle B.hR2 rfl⟩) h.1 rfl rfl (Nat.le_of_ble_eq_true rfl) dX12_isQuestion_46) (fun v27 x26 h => ?_)
      exact k_zret o hb B.hr fr dX12_isQuestion_49 h
    · skip
      refine k_aload_n o hb dX12_isQuestion_50 rfl 0 rfl ?_
      refine k_getF (C := RX12) (T := TX12) (N := 57) o hb hts in12 hown rfl (by decide) 44 (by decide) rfl (hts (.fieldLink RX12 103 "FactKeeperModel" "goal" "[I") (by decide +kernel)) (fun _ h9 => h9) dX12_isQuestion_51 h (fun v28 h => ?_)
      refine k_aload_n o hb dX12_isQuestion_54 rfl 0 rfl ?_
      refine k_getI (C := RX12) (T := TX12) (N := 57) o hb hts in12 hown rfl (by decide) 49 (by decide) rfl (hts (.fieldLink RX12 281 "FactKeeperModel" "goals" "I") (by decide +kernel)) (fun _ h9 => h9) dX12_isQuestion_55 h (fun v29 h => ?_)
      refine k_iconst (v := 0) o hb dX12_isQuestion_58 (by decide) ?_
      refine k_iast o hb dX12_isQuestion_59 h (fun x30 h => ?_)
      refine k_aload_n o hb dX12_isQuestion_60 rfl 0 rfl ?_
      refine k_aload_n o hb dX12_isQuestion_61 rfl 0 rfl ?_
      refine k_getI (C := RX12) (T := TX12) (N := 57) o hb hts in12 hown rfl (by decide) 41 (by decide) rfl (hts (.fieldLink RX12 244 "FactKeeperModel" "at" "I") (by decide +kernel)) (fun _ h9 => h9) dX12_isQuestion_62 h (fun v31 h => ?_)
      refine k_run_i o (fun _ _ q => q) (k_runV (ci := 12) (rc := (RX12, TX12, 57)) o hb B.hml hown hts rfl (by decide) (T_X12_byteAt g.l o.hl g.D g.cA h.2) (cwV 1 hts gX12_isQuestion_X12_byteAt rfl rfl rfl (by decide +kernel) ⟨yle B.hR1 rfl, yle B.hR2 rfl⟩) h.1 rfl rfl (Nat.le_of_ble_eq_true rfl) dX12_isQuestion_65) (fun v33 x32 h => ?_)
      refine k_bipush (v := 116) o hb dX12_isQuestion_68 (by decide) ?_
      refine wJoin_elim (M := fun K => ∀ (v36 : Int32) (x35 : HS), K v36 x35 → KW g 4 167 [(0, .q l0), (3, .i v36)] [] x35) h ?_ (fun j34 hj34 h => ?_)
      · skip
        intro v36 x35 h
        refine k_iload_n o hb dX12_isQuestion_167 rfl 1 rfl ?_
        refine k_if_ne (tgt := 173) o hb dX12_isQuestion_168 (by decide) h (fun h => ?_) (fun h => ?_)
        · skip
          refine k_iconst (v := 0) o hb dX12_isQuestion_171 (by decide) ?_
          exact k_zret o hb B.hr fr dX12_isQuestion_172 h
        · skip
          refine k_aload_n o hb dX12_isQuestion_173 rfl 0 rfl ?_
          refine k_dup o hb dX12_isQuestion_174 ?_
          refine k_getI (C := RX12) (T := TX12) (N := 57) o hb hts in12 hown rfl (by decide) 49 (by decide) rfl (hts (.fieldLink RX12 281 "FactKeeperModel" "goals" "I") (by decide +kernel)) (fun _ h9 => h9) dX12_isQuestion_175 h (fun v37 h => ?_)
          refine k_iconst (v := 1) o hb dX12_isQuestion_178 (by decide) ?_
          refine k_iadd o hb dX12_isQuestion_179 ?_
          refine k_putI (C := RX12) (T := TX12) (N := 57) (ty := .int) o hb hts in12 tyX12 tyX12_ok nmX12 hown rfl (by decide) 49 (by decide) rfl (hts (.fieldLink RX12 281 "FactKeeperModel" "goals" "I") (by decide +kernel)) (fun _ h9 => h9) rfl (by decide +kernel) (fun _ => rfl) (fun _ => rfl) dX12_isQuestion_180 h (fun x38 h => ?_)
          refine k_aload_n o hb dX12_isQuestion_183 rfl 0 rfl ?_
          refine k_bipush (v := 44) o hb dX12_isQuestion_184 (by decide) ?_
          refine k_run_i o (fun _ _ q => q) (k_runV (ci := 12) (rc := (RX12, TX12, 57)) o hb B.hml hown hts rfl (by decide) (T_X12_take g.l o.hl g.D g.cA h.2) (cwV 1 hts gX12_isQuestion_X12_take rfl rfl rfl (by decide +kernel) ⟨yle B.hR1 rfl, yle B.hR2 rfl⟩) h.1 rfl rfl (Nat.le_of_ble_eq_true rfl) dX12_isQuestion_186) (fun v40 x39 h => ?_)
          refine k_istore_n o hb dX12_isQuestion_189 rfl rfl ?_
          refine k_goto (tgt := 24) o hb dX12_isQuestion_190 (by decide) ?_
          exact KW.sub [1, 0] rfl (ih7 v40 x39 h)
      · skip
        refine k_icmp_ne (tgt := 85) o hb dX12_isQuestion_70 (by decide) h (fun h => ?_) (fun h => ?_)
        · skip
          refine k_aload_n o hb dX12_isQuestion_73 rfl 0 rfl ?_
          refine k_aload_n o hb dX12_isQuestion_74 rfl 0 rfl ?_
          refine k_getI (C := RX12) (T := TX12) (N := 57) o hb hts in12 hown rfl (by decide) 49 (by decide) rfl (hts (.fieldLink RX12 281 "FactKeeperModel" "goals" "I") (by decide +kernel)) (fun _ h9 => h9) dX12_isQuestion_75 h (fun v41 h => ?_)
          refine k_run_i o (fun _ _ q => q) (k_runV (ci := 12) (rc := (RX12, TX12, 57)) o hb B.hml hown hts rfl (by decide) (T_X12_tableGoal g.l o.hl g.D g.cA h.2) (cwV 1 hts gX12_isQuestion_X12_tableGoal rfl rfl rfl (by decide +kernel) ⟨yle B.hR1 rfl, yle B.hR2 rfl⟩) h.1 rfl rfl (Nat.le_of_ble_eq_true rfl) dX12_isQuestion_78) (fun v43 x42 h => ?_)
          refine k_istore_n o hb dX12_isQuestion_81 rfl rfl ?_
          refine k_goto (tgt := 167) o hb dX12_isQuestion_82 (by decide) ?_
          exact KW.sub [1, 0] rfl (hj34 v43 x42 h)
        · skip
          refine k_aload_n o hb dX12_isQuestion_85 rfl 0 rfl ?_
          refine k_aload_n o hb dX12_isQuestion_86 rfl 0 rfl ?_
          refine k_getI (C := RX12) (T := TX12) (N := 57) o hb hts in12 hown rfl (by decide) 41 (by decide) rfl (hts (.fieldLink RX12 244 "FactKeeperModel" "at" "I") (by decide +kernel)) (fun _ h9 => h9) dX12_isQuestion_87 h (fun v44 h => ?_)
          refine k_run_i o (fun _ _ q => q) (k_runV (ci := 12) (rc := (RX12, TX12, 57)) o hb B.hml hown hts rfl (by decide) (T_X12_byteAt g.l o.hl g.D g.cA h.2) (cwV 1 hts gX12_isQuestion_X12_byteAt rfl rfl rfl (by decide +kernel) ⟨yle B.hR1 rfl, yle B.hR2 rfl⟩) h.1 rfl rfl (Nat.le_of_ble_eq_true rfl) dX12_isQuestion_90) (fun v46 x45 h => ?_)
          refine k_bipush (v := 33) o hb dX12_isQuestion_93 (by decide) ?_
          refine k_icmp_ne (tgt := 158) o hb dX12_isQuestion_95 (by decide) h (fun h => ?_) (fun h => ?_)
          · skip
            refine k_aload_n o hb dX12_isQuestion_98 rfl 0 rfl ?_
            refine k_dup o hb dX12_isQuestion_99 ?_
            refine k_getI (C := RX12) (T := TX12) (N := 57) o hb hts in12 hown rfl (by decide) 41 (by decide) rfl (hts (.fieldLink RX12 244 "FactKeeperModel" "at" "I") (by decide +kernel)) (fun _ h9 => h9) dX12_isQuestion_100 h (fun v47 h => ?_)
            refine k_iconst (v := 1) o hb dX12_isQuestion_103 (by decide) ?_
            refine k_iadd o hb dX12_isQuestion_104 ?_
            refine k_putI (C := RX12) (T := TX12) (N := 57) (ty := .int) o hb hts in12 tyX12 tyX12_ok nmX12 hown rfl (by decide) 41 (by decide) rfl (hts (.fieldLink RX12 244 "FactKeeperModel" "at" "I") (by decide +kernel)) (fun _ h9 => h9) rfl (by decide +kernel) (fun _ => rfl) (fun _ => rfl) dX12_isQuestion_105 h (fun x48 h => ?_)
            refine k_aload_n o hb dX12_isQuestion_108 rfl 0 rfl ?_
            refine k_run_v o (fun _ _ q => q) (k_runV (ci := 12) (rc := (RX12, TX12, 57)) o hb B.hml hown hts rfl (by decide) (T_X12_blanks g.l o.hl g.D g.cA h.2) (cwV 0 hts gX12_isQuestion_X12_blanks rfl rfl rfl (by decide +kernel) ⟨yle B.hR1 rfl, yle B.hR2 rfl⟩) h.1 rfl rfl (Nat.le_of_ble_eq_true rfl) dX12_isQuestion_109) (fun x49 h => ?_)
            refine k_aload_n o hb dX12_isQuestion_112 rfl 0 rfl ?_
            refine k_getF (C := RX12) (T := TX12) (N := 57) o hb hts in12 hown rfl (by decide) 44 (by decide) rfl (hts (.fieldLink RX12 103 "FactKeeperModel" "goal" "[I") (by decide +kernel)) (fun _ h9 => h9) dX12_isQuestion_113 h (fun v51 h => ?_)
            refine k_aload_n o hb dX12_isQuestion_116 rfl 0 rfl ?_
            refine k_getI (C := RX12) (T := TX12) (N := 57) o hb hts in12 hown rfl (by decide) 49 (by decide) rfl (hts (.fieldLink RX12 281 "FactKeeperModel" "goals" "I") (by decide +kernel)) (fun _ h9 => h9) dX12_isQuestion_117 h (fun v52 h => ?_)
            refine k_iconst (v := 1) o hb dX12_isQuestion_120 (by decide) ?_
            refine k_iast o hb dX12_isQuestion_121 h (fun x53 h => ?_)
            refine k_aload_n o hb dX12_isQuestion_122 rfl 0 rfl ?_
            refine k_aload_n o hb dX12_isQuestion_123 rfl 0 rfl ?_
            refine k_getI (C := RX12) (T := TX12) (N := 57) o hb hts in12 hown rfl (by decide) 41 (by decide) rfl (hts (.fieldLink RX12 244 "FactKeeperModel" "at" "I") (by decide +kernel)) (fun _ h9 => h9) dX12_isQuestion_124 h (fun v54 h => ?_)
            refine k_run_i o (fun _ _ q => q) (k_runV (ci := 12) (rc := (RX12, TX12, 57)) o hb B.hml hown hts rfl (by decide) (T_X12_byteAt g.l o.hl g.D g.cA h.2) (cwV 1 hts gX12_isQuestion_X12_byteAt rfl rfl rfl (by decide +kernel) ⟨yle B.hR1 rfl, yle B.hR2 rfl⟩) h.1 rfl rfl (Nat.le_of_ble_eq_true rfl) dX12_isQuestion_127) (fun v56 x55 h => ?_)
            refine k_bipush (v := 116) o hb dX12_isQuestion_130 (by decide) ?_
            refine wJoin_elim (M := fun K => ∀ (v59 : Int32) (x58 : HS), K v59 x58 → KW g 4 154 [(0, .q l0)] [.i v59] x58) h ?_ (fun j57 hj57 h => ?_)
            · skip
              intro v59 x58 h
              refine k_istore_n o hb dX12_isQuestion_154 rfl rfl ?_
              refine k_goto (tgt := 167) o hb dX12_isQuestion_155 (by decide) ?_
              exact KW.sub [1, 0] rfl (hj34 v59 x58 h)
            · skip
              refine k_icmp_ne (tgt := 146) o hb dX12_isQuestion_132 (by decide) h (fun h => ?_) (fun h => ?_)
              · skip
                refine k_aload_n o hb dX12_isQuestion_135 rfl 0 rfl ?_
                refine k_aload_n o hb dX12_isQuestion_136 rfl 0 rfl ?_
                refine k_getI (C := RX12) (T := TX12) (N := 57) o hb hts in12 hown rfl (by decide) 49 (by decide) rfl (hts (.fieldLink RX12 281 "FactKeeperModel" "goals" "I") (by decide +kernel)) (fun _ h9 => h9) dX12_isQuestion_137 h (fun v60 h => ?_)
                refine k_run_i o (fun _ _ q => q) (k_runV (ci := 12) (rc := (RX12, TX12, 57)) o hb B.hml hown hts rfl (by decide) (T_X12_tableGoal g.l o.hl g.D g.cA h.2) (cwV 1 hts gX12_isQuestion_X12_tableGoal rfl rfl rfl (by decide +kernel) ⟨yle B.hR1 rfl, yle B.hR2 rfl⟩) h.1 rfl rfl (Nat.le_of_ble_eq_true rfl) dX12_isQuestion_140) (fun v62 x61 h => ?_)
                refine k_goto (tgt := 154) o hb dX12_isQuestion_143 (by decide) ?_
                exact KW.sub [0] rfl (hj57 v62 x61 h)
              · skip
                refine k_aload_n o hb dX12_isQuestion_146 rfl 0 rfl ?_
                refine k_aload_n o hb dX12_isQuestion_147 rfl 0 rfl ?_
                refine k_getI (C := RX12) (T := TX12) (N := 57) o hb hts in12 hown rfl (by decide) 41 (by decide) rfl (hts (.fieldLink RX12 244 "FactKeeperModel" "at" "I") (by decide +kernel)) (fun _ h9 => h9) dX12_isQuestion_148 h (fun v63 h => ?_)
                refine k_run_i o (fun _ _ q => q) (k_runV (ci := 12) (rc := (RX12, TX12, 57)) o hb B.hml hown hts rfl (by decide) (T_X12_wrong g.l o.hl g.D g.cA h.2) (cwV 1 hts gX12_isQuestion_X12_wrong rfl rfl rfl (by decide +kernel) ⟨yle B.hR1 rfl, yle B.hR2 rfl⟩) h.1 rfl rfl (Nat.le_of_ble_eq_true rfl) dX12_isQuestion_151) (fun v65 x64 h => ?_)
                exact KW.sub [0] rfl (hj57 v65 x64 h)
          · skip
            refine k_aload_n o hb dX12_isQuestion_158 rfl 0 rfl ?_
            refine k_aload_n o hb dX12_isQuestion_159 rfl 0 rfl ?_
            refine k_getI (C := RX12) (T := TX12) (N := 57) o hb hts in12 hown rfl (by decide) 49 (by decide) rfl (hts (.fieldLink RX12 281 "FactKeeperModel" "goals" "I") (by decide +kernel)) (fun _ h9 => h9) dX12_isQuestion_160 h (fun v66 h => ?_)
            refine k_run_i o (fun _ _ q => q) (k_runV (ci := 12) (rc := (RX12, TX12, 57)) o hb B.hml hown hts rfl (by decide) (T_X12_otherGoal g.l o.hl g.D g.cA h.2) (cwV 1 hts gX12_isQuestion_X12_otherGoal rfl rfl rfl (by decide +kernel) ⟨yle B.hR1 rfl, yle B.hR2 rfl⟩) h.1 rfl rfl (Nat.le_of_ble_eq_true rfl) dX12_isQuestion_163) (fun v68 x67 h => ?_)
            refine k_istore_n o hb dX12_isQuestion_166 rfl rfl ?_
            exact KW.sub [1, 0] rfl (hj34 v68 x67 h)
theorem dX12_worth_0 : decode cX12_worth 0 = .ok (.aload_n 0, 1) := by decide +kernel
theorem dX12_worth_1 : decode cX12_worth 1 = .ok (.getfield 109, 3) := by decide +kernel
theorem dX12_worth_4 : decode cX12_worth 4 = .ok (.iload_n 1, 1) := by decide +kernel
theorem dX12_worth_5 : decode cX12_worth 5 = .ok (.iaload, 1) := by decide +kernel
theorem dX12_worth_6 : decode cX12_worth 6 = .ok (.iconst 1, 1) := by decide +kernel
theorem dX12_worth_7 : decode cX12_worth 7 = .ok (.if_icmp .ne 17, 3) := by decide +kernel
theorem dX12_worth_10 : decode cX12_worth 10 = .ok (.aload_n 0, 1) := by decide +kernel
theorem dX12_worth_11 : decode cX12_worth 11 = .ok (.getfield 118, 3) := by decide +kernel
theorem dX12_worth_14 : decode cX12_worth 14 = .ok (.aload_n 0, 1) := by decide +kernel
theorem dX12_worth_15 : decode cX12_worth 15 = .ok (.getfield 112, 3) := by decide +kernel
theorem dX12_worth_18 : decode cX12_worth 18 = .ok (.iload_n 1, 1) := by decide +kernel
theorem dX12_worth_19 : decode cX12_worth 19 = .ok (.iaload, 1) := by decide +kernel
theorem dX12_worth_20 : decode cX12_worth 20 = .ok (.iaload, 1) := by decide +kernel
theorem dX12_worth_21 : decode cX12_worth 21 = .ok (.goto 9, 3) := by decide +kernel
theorem dX12_worth_24 : decode cX12_worth 24 = .ok (.aload_n 0, 1) := by decide +kernel
theorem dX12_worth_25 : decode cX12_worth 25 = .ok (.getfield 112, 3) := by decide +kernel
theorem dX12_worth_28 : decode cX12_worth 28 = .ok (.iload_n 1, 1) := by decide +kernel
theorem dX12_worth_29 : decode cX12_worth 29 = .ok (.iaload, 1) := by decide +kernel
theorem dX12_worth_30 : decode cX12_worth 30 = .ok (.ireturn, 1) := by decide +kernel
set_option maxHeartbeats 4000000 in
set_option maxRecDepth 100000 in
theorem T_X12_worth (l : Launch) (hl : l.stackTraces = false) (D : va_G) (cA : Nat → ClassId) {l0 : Option Nat} {l1 : Int32} {x : HS} {Q : Int32 → HS → Prop} {X : String → HS → Prop} (h : w_X12_worth l0 l1 x Q X) : YI l yX12_worth wsX12_worth 0 0 D cA [.q l0, .i l1] x Q X := by
  refine YI.of (cc := cX12_worth) (maxL := 2) (ret := (some .int)) hl (by decide) rfl rfl (fun g B fr => ?_)
  have o := B.o
  have hb := B.hb
  have hts := B.hts
  have hown : g.s.vm.findClass RX12 = some g.m.cls := B.hown
  have in12 : ∀ w ∈ u_ws RX12 TX12 57, w ∈ wsX12_worth := fun w h => (List.mem_cons_of_mem _ (List.mem_append_right _ h))
  unfold w_X12_worth at h
  show KW g 2 0 [(0, .q l0), (1, .i l1)] [] x
  refine k_aload_n o hb dX12_worth_0 rfl 0 rfl ?_
  refine k_getF (C := RX12) (T := TX12) (N := 57) o hb hts in12 hown rfl (by decide) 46 (by decide) rfl (hts (.fieldLink RX12 109 "FactKeeperModel" "sort" "[I") (by decide +kernel)) (fun _ h9 => h9) dX12_worth_1 h (fun v1 h => ?_)
  refine k_iload_n o hb dX12_worth_4 rfl 1 rfl ?_
  refine k_iald o hb dX12_worth_5 h (fun v2 h => ?_)
  refine k_iconst (v := 1) o hb dX12_worth_6 (by decide) ?_
  refine wJoin_elim (M := fun K => ∀ (v5 : Int32) (x4 : HS), K v5 x4 → KW g 2 30 [] [.i v5] x4) h ?_ (fun j3 hj3 h => ?_)
  · skip
    intro v5 x4 h
    exact k_iret o hb B.hr fr dX12_worth_30 h
  · skip
    refine k_icmp_ne (tgt := 24) o hb dX12_worth_7 (by decide) h (fun h => ?_) (fun h => ?_)
    · skip
      refine k_aload_n o hb dX12_worth_10 rfl 0 rfl ?_
      refine k_getF (C := RX12) (T := TX12) (N := 57) o hb hts in12 hown rfl (by decide) 50 (by decide) rfl (hts (.fieldLink RX12 118 "FactKeeperModel" "variable" "[I") (by decide +kernel)) (fun _ h9 => h9) dX12_worth_11 h (fun v6 h => ?_)
      refine k_aload_n o hb dX12_worth_14 rfl 0 rfl ?_
      refine k_getF (C := RX12) (T := TX12) (N := 57) o hb hts in12 hown rfl (by decide) 47 (by decide) rfl (hts (.fieldLink RX12 112 "FactKeeperModel" "argument" "[I") (by decide +kernel)) (fun _ h9 => h9) dX12_worth_15 h (fun v7 h => ?_)
      refine k_iload_n o hb dX12_worth_18 rfl 1 rfl ?_
      refine k_iald o hb dX12_worth_19 h (fun v8 h => ?_)
      refine k_iald o hb dX12_worth_20 h (fun v9 h => ?_)
      refine k_goto (tgt := 30) o hb dX12_worth_21 (by decide) ?_
      exact KW.sub [] rfl (hj3 v9 x h)
    · skip
      refine k_aload_n o hb dX12_worth_24 rfl 0 rfl ?_
      refine k_getF (C := RX12) (T := TX12) (N := 57) o hb hts in12 hown rfl (by decide) 47 (by decide) rfl (hts (.fieldLink RX12 112 "FactKeeperModel" "argument" "[I") (by decide +kernel)) (fun _ h9 => h9) dX12_worth_25 h (fun v10 h => ?_)
      refine k_iload_n o hb dX12_worth_28 rfl 1 rfl ?_
      refine k_iald o hb dX12_worth_29 h (fun v11 h => ?_)
      exact KW.sub [] rfl (hj3 v11 x h)
theorem dX12_isOne_0 : decode cX12_isOne 0 = .ok (.aload_n 0, 1) := by decide +kernel
theorem dX12_isOne_1 : decode cX12_isOne 1 = .ok (.getfield 21, 3) := by decide +kernel
theorem dX12_isOne_4 : decode cX12_isOne 4 = .ok (.aload_n 0, 1) := by decide +kernel
theorem dX12_isOne_5 : decode cX12_isOne 5 = .ok (.getfield 106, 3) := by decide +kernel
theorem dX12_isOne_8 : decode cX12_isOne 8 = .ok (.iload_n 1, 1) := by decide +kernel
theorem dX12_isOne_9 : decode cX12_isOne 9 = .ok (.iaload, 1) := by decide +kernel
theorem dX12_isOne_10 : decode cX12_isOne 10 = .ok (.iaload, 1) := by decide +kernel
theorem dX12_isOne_11 : decode cX12_isOne 11 = .ok (.istore_n 3, 1) := by decide +kernel
theorem dX12_isOne_12 : decode cX12_isOne 12 = .ok (.iconst 0, 1) := by decide +kernel
theorem dX12_isOne_13 : decode cX12_isOne 13 = .ok (.istore 4, 2) := by decide +kernel
theorem dX12_isOne_15 : decode cX12_isOne 15 = .ok (.iload 4, 2) := by decide +kernel
theorem dX12_isOne_17 : decode cX12_isOne 17 = .ok (.iload_n 3, 1) := by decide +kernel
theorem dX12_isOne_18 : decode cX12_isOne 18 = .ok (.if_icmp .ge 107, 3) := by decide +kernel
theorem dX12_isOne_21 : decode cX12_isOne 21 = .ok (.iconst 0, 1) := by decide +kernel
theorem dX12_isOne_22 : decode cX12_isOne 22 = .ok (.istore 5, 2) := by decide +kernel
theorem dX12_isOne_24 : decode cX12_isOne 24 = .ok (.iload 5, 2) := by decide +kernel
theorem dX12_isOne_26 : decode cX12_isOne 26 = .ok (.iload 4, 2) := by decide +kernel
theorem dX12_isOne_28 : decode cX12_isOne 28 = .ok (.if_icmp .ge 91, 3) := by decide +kernel
theorem dX12_isOne_31 : decode cX12_isOne 31 = .ok (.aload_n 0, 1) := by decide +kernel
theorem dX12_isOne_32 : decode cX12_isOne 32 = .ok (.getfield 109, 3) := by decide +kernel
theorem dX12_isOne_35 : decode cX12_isOne 35 = .ok (.iconst 5, 1) := by decide +kernel
theorem dX12_isOne_36 : decode cX12_isOne 36 = .ok (.iload_n 1, 1) := by decide +kernel
theorem dX12_isOne_37 : decode cX12_isOne 37 = .ok (.imul, 1) := by decide +kernel
theorem dX12_isOne_38 : decode cX12_isOne 38 = .ok (.iload 4, 2) := by decide +kernel
theorem dX12_isOne_40 : decode cX12_isOne 40 = .ok (.iadd, 1) := by decide +kernel
theorem dX12_isOne_41 : decode cX12_isOne 41 = .ok (.iaload, 1) := by decide +kernel
theorem dX12_isOne_42 : decode cX12_isOne 42 = .ok (.iconst 1, 1) := by decide +kernel
theorem dX12_isOne_43 : decode cX12_isOne 43 = .ok (.if_icmp .ne 70, 3) := by decide +kernel
theorem dX12_isOne_46 : decode cX12_isOne 46 = .ok (.aload_n 0, 1) := by decide +kernel
theorem dX12_isOne_47 : decode cX12_isOne 47 = .ok (.getfield 109, 3) := by decide +kernel
theorem dX12_isOne_50 : decode cX12_isOne 50 = .ok (.iconst 5, 1) := by decide +kernel
theorem dX12_isOne_51 : decode cX12_isOne 51 = .ok (.iload_n 1, 1) := by decide +kernel
theorem dX12_isOne_52 : decode cX12_isOne 52 = .ok (.imul, 1) := by decide +kernel
theorem dX12_isOne_53 : decode cX12_isOne 53 = .ok (.iload 5, 2) := by decide +kernel
theorem dX12_isOne_55 : decode cX12_isOne 55 = .ok (.iadd, 1) := by decide +kernel
theorem dX12_isOne_56 : decode cX12_isOne 56 = .ok (.iaload, 1) := by decide +kernel
theorem dX12_isOne_57 : decode cX12_isOne 57 = .ok (.iconst 1, 1) := by decide +kernel
theorem dX12_isOne_58 : decode cX12_isOne 58 = .ok (.if_icmp .ne 55, 3) := by decide +kernel
theorem dX12_isOne_61 : decode cX12_isOne 61 = .ok (.aload_n 0, 1) := by decide +kernel
theorem dX12_isOne_62 : decode cX12_isOne 62 = .ok (.getfield 112, 3) := by decide +kernel
theorem dX12_isOne_65 : decode cX12_isOne 65 = .ok (.iconst 5, 1) := by decide +kernel
theorem dX12_isOne_66 : decode cX12_isOne 66 = .ok (.iload_n 1, 1) := by decide +kernel
theorem dX12_isOne_67 : decode cX12_isOne 67 = .ok (.imul, 1) := by decide +kernel
theorem dX12_isOne_68 : decode cX12_isOne 68 = .ok (.iload 4, 2) := by decide +kernel
theorem dX12_isOne_70 : decode cX12_isOne 70 = .ok (.iadd, 1) := by decide +kernel
theorem dX12_isOne_71 : decode cX12_isOne 71 = .ok (.iaload, 1) := by decide +kernel
theorem dX12_isOne_72 : decode cX12_isOne 72 = .ok (.aload_n 0, 1) := by decide +kernel
theorem dX12_isOne_73 : decode cX12_isOne 73 = .ok (.getfield 112, 3) := by decide +kernel
theorem dX12_isOne_76 : decode cX12_isOne 76 = .ok (.iconst 5, 1) := by decide +kernel
theorem dX12_isOne_77 : decode cX12_isOne 77 = .ok (.iload_n 1, 1) := by decide +kernel
theorem dX12_isOne_78 : decode cX12_isOne 78 = .ok (.imul, 1) := by decide +kernel
theorem dX12_isOne_79 : decode cX12_isOne 79 = .ok (.iload 5, 2) := by decide +kernel
theorem dX12_isOne_81 : decode cX12_isOne 81 = .ok (.iadd, 1) := by decide +kernel
theorem dX12_isOne_82 : decode cX12_isOne 82 = .ok (.iaload, 1) := by decide +kernel
theorem dX12_isOne_83 : decode cX12_isOne 83 = .ok (.if_icmp .ne 30, 3) := by decide +kernel
theorem dX12_isOne_86 : decode cX12_isOne 86 = .ok (.aload_n 0, 1) := by decide +kernel
theorem dX12_isOne_87 : decode cX12_isOne 87 = .ok (.getfield 46, 3) := by decide +kernel
theorem dX12_isOne_90 : decode cX12_isOne 90 = .ok (.iconst 4, 1) := by decide +kernel
theorem dX12_isOne_91 : decode cX12_isOne 91 = .ok (.iload_n 2, 1) := by decide +kernel
theorem dX12_isOne_92 : decode cX12_isOne 92 = .ok (.imul, 1) := by decide +kernel
theorem dX12_isOne_93 : decode cX12_isOne 93 = .ok (.iload 4, 2) := by decide +kernel
theorem dX12_isOne_95 : decode cX12_isOne 95 = .ok (.iadd, 1) := by decide +kernel
theorem dX12_isOne_96 : decode cX12_isOne 96 = .ok (.iaload, 1) := by decide +kernel
theorem dX12_isOne_97 : decode cX12_isOne 97 = .ok (.aload_n 0, 1) := by decide +kernel
theorem dX12_isOne_98 : decode cX12_isOne 98 = .ok (.getfield 46, 3) := by decide +kernel
theorem dX12_isOne_101 : decode cX12_isOne 101 = .ok (.iconst 4, 1) := by decide +kernel
theorem dX12_isOne_102 : decode cX12_isOne 102 = .ok (.iload_n 2, 1) := by decide +kernel
theorem dX12_isOne_103 : decode cX12_isOne 103 = .ok (.imul, 1) := by decide +kernel
theorem dX12_isOne_104 : decode cX12_isOne 104 = .ok (.iload 5, 2) := by decide +kernel
theorem dX12_isOne_106 : decode cX12_isOne 106 = .ok (.iadd, 1) := by decide +kernel
theorem dX12_isOne_107 : decode cX12_isOne 107 = .ok (.iaload, 1) := by decide +kernel
theorem dX12_isOne_108 : decode cX12_isOne 108 = .ok (.if_icmp .eq 5, 3) := by decide +kernel
theorem dX12_isOne_111 : decode cX12_isOne 111 = .ok (.iconst 0, 1) := by decide +kernel
theorem dX12_isOne_112 : decode cX12_isOne 112 = .ok (.ireturn, 1) := by decide +kernel
theorem dX12_isOne_113 : decode cX12_isOne 113 = .ok (.iinc 5 1, 3) := by decide +kernel
theorem dX12_isOne_116 : decode cX12_isOne 116 = .ok (.goto (-92), 3) := by decide +kernel
theorem dX12_isOne_119 : decode cX12_isOne 119 = .ok (.iinc 4 1, 3) := by decide +kernel
theorem dX12_isOne_122 : decode cX12_isOne 122 = .ok (.goto (-107), 3) := by decide +kernel
theorem dX12_isOne_125 : decode cX12_isOne 125 = .ok (.iconst 1, 1) := by decide +kernel
theorem dX12_isOne_126 : decode cX12_isOne 126 = .ok (.ireturn, 1) := by decide +kernel
set_option maxHeartbeats 4000000 in
set_option maxRecDepth 100000 in
theorem T_X12_isOne (l : Launch) (hl : l.stackTraces = false) (D : va_G) (cA : Nat → ClassId) {l0 : Option Nat} {l1 : Int32} {l2 : Int32} {x : HS} {Q : Int32 → HS → Prop} {X : String → HS → Prop} (h : w_X12_isOne l0 l1 l2 x Q X) : YI l yX12_isOne wsX12_isOne 0 0 D cA [.q l0, .i l1, .i l2] x Q X := by
  refine YI.of (cc := cX12_isOne) (maxL := 6) (ret := (some .boolean)) hl (by decide) rfl rfl (fun g B fr => ?_)
  have o := B.o
  have hb := B.hb
  have hts := B.hts
  have hown : g.s.vm.findClass RX12 = some g.m.cls := B.hown
  have in12 : ∀ w ∈ u_ws RX12 TX12 57, w ∈ wsX12_isOne := fun w h => (List.mem_cons_of_mem _ (List.mem_append_right _ h))
  unfold w_X12_isOne at h
  show KW g 6 0 [(0, .q l0), (1, .i l1), (2, .i l2)] [] x
  refine k_aload_n o hb dX12_isOne_0 rfl 0 rfl ?_
  refine k_getF (C := RX12) (T := TX12) (N := 57) o hb hts in12 hown rfl (by decide) 4 (by decide) rfl (hts (.fieldLink RX12 21 "FactKeeperModel" "columns" "[I") (by decide +kernel)) (fun _ h9 => h9) dX12_isOne_1 h (fun v1 h => ?_)
  refine k_aload_n o hb dX12_isOne_4 rfl 0 rfl ?_
  refine k_getF (C := RX12) (T := TX12) (N := 57) o hb hts in12 hown rfl (by decide) 45 (by decide) rfl (hts (.fieldLink RX12 106 "FactKeeperModel" "goalTable" "[I") (by decide +kernel)) (fun _ h9 => h9) dX12_isOne_5 h (fun v2 h => ?_)
  refine k_iload_n o hb dX12_isOne_8 rfl 1 rfl ?_
  refine k_iald o hb dX12_isOne_9 h (fun v3 h => ?_)
  refine k_iald o hb dX12_isOne_10 h (fun v4 h => ?_)
  refine k_istore_n o hb dX12_isOne_11 rfl rfl ?_
  refine k_iconst (v := 0) o hb dX12_isOne_12 (by decide) ?_
  refine k_istore o hb dX12_isOne_13 rfl ?_
  refine KW.sub [2, 3, 4, 1, 0] rfl ?_
  refine wLoop_elim (M := fun (v8 : Int32) (x7 : HS) => KW g 6 15 [(0, .q l0), (1, .i l1), (2, .i l2), (3, .i v4), (4, .i v8)] [] x7) h ?_
  intro v8 x7 again5 ih6 h
  refine k_iload o hb dX12_isOne_15 4 rfl ?_
  refine k_iload_n o hb dX12_isOne_17 rfl 3 rfl ?_
  refine k_icmp_ge (tgt := 125) o hb dX12_isOne_18 (by decide) h (fun h => ?_) (fun h => ?_)
  · skip
    refine k_iconst (v := 1) o hb dX12_isOne_125 (by decide) ?_
    exact k_zret o hb B.hr fr dX12_isOne_126 h
  · skip
    refine k_iconst (v := 0) o hb dX12_isOne_21 (by decide) ?_
    refine k_istore o hb dX12_isOne_22 rfl ?_
    refine KW.sub [1, 2, 3, 4, 5, 0] rfl ?_
    refine wLoop_elim (M := fun (v12 : Int32 × Int32) (x11 : HS) => KW g 6 24 [(0, .q l0), (1, .i l1), (2, .i l2), (3, .i v4), (4, .i v12.1), (5, .i v12.2)] [] x11) h ?_
    intro v12 x11 again9 ih10 h
    refine k_iload o hb dX12_isOne_24 5 rfl ?_
    refine k_iload o hb dX12_isOne_26 4 rfl ?_
    refine k_icmp_ge (tgt := 119) o hb dX12_isOne_28 (by decide) h (fun h => ?_) (fun h => ?_)
    · skip
      refine k_iinc (w := 1) o hb dX12_isOne_119 4 rfl (by decide) rfl ?_
      refine k_goto (tgt := 15) o hb dX12_isOne_122 (by decide) ?_
      exact KW.sub [1, 2, 3, 4, 0] rfl (ih6 (v12.1 + 1) x11 h)
    · skip
      refine k_aload_n o hb dX12_isOne_31 rfl 0 rfl ?_
      refine k_getF (C := RX12) (T := TX12) (N := 57) o hb hts in12 hown rfl (by decide) 46 (by decide) rfl (hts (.fieldLink RX12 109 "FactKeeperModel" "sort" "[I") (by decide +kernel)) (fun _ h9 => h9) dX12_isOne_32 h (fun v13 h => ?_)
      refine k_iconst (v := 5) o hb dX12_isOne_35 (by decide) ?_
      refine k_iload_n o hb dX12_isOne_36 rfl 1 rfl ?_
      refine k_imul o hb dX12_isOne_37 ?_
      refine k_iload o hb dX12_isOne_38 4 rfl ?_
      refine k_iadd o hb dX12_isOne_40 ?_
      refine k_iald o hb dX12_isOne_41 h (fun v14 h => ?_)
      refine k_iconst (v := 1) o hb dX12_isOne_42 (by decide) ?_
      refine wJoin_elim (M := fun K => ∀  (x16 : HS), K  x16 → KW g 6 113 [(0, .q l0), (1, .i l1), (2, .i l2), (3, .i v4), (4, .i v12.1), (5, .i v12.2)] [] x16) h ?_ (fun j15 hj15 h => ?_)
      · skip
        intro  x16 h
        refine k_iinc (w := 1) o hb dX12_isOne_113 5 rfl (by decide) rfl ?_
        refine k_goto (tgt := 24) o hb dX12_isOne_116 (by decide) ?_
        exact KW.sub [1, 2, 3, 4, 5, 0] rfl (ih10 (v12.1, (v12.2 + 1)) x16 h)
      · skip
        refine k_icmp_ne (tgt := 113) o hb dX12_isOne_43 (by decide) h (fun h => ?_) (fun h => ?_)
        · skip
          refine k_aload_n o hb dX12_isOne_46 rfl 0 rfl ?_
          refine k_getF (C := RX12) (T := TX12) (N := 57) o hb hts in12 hown rfl (by decide) 46 (by decide) rfl (hts (.fieldLink RX12 109 "FactKeeperModel" "sort" "[I") (by decide +kernel)) (fun _ h9 => h9) dX12_isOne_47 h (fun v17 h => ?_)
          refine k_iconst (v := 5) o hb dX12_isOne_50 (by decide) ?_
          refine k_iload_n o hb dX12_isOne_51 rfl 1 rfl ?_
          refine k_imul o hb dX12_isOne_52 ?_
          refine k_iload o hb dX12_isOne_53 5 rfl ?_
          refine k_iadd o hb dX12_isOne_55 ?_
          refine k_iald o hb dX12_isOne_56 h (fun v18 h => ?_)
          refine k_iconst (v := 1) o hb dX12_isOne_57 (by decide) ?_
          refine k_icmp_ne (tgt := 113) o hb dX12_isOne_58 (by decide) h (fun h => ?_) (fun h => ?_)
          · skip
            refine k_aload_n o hb dX12_isOne_61 rfl 0 rfl ?_
            refine k_getF (C := RX12) (T := TX12) (N := 57) o hb hts in12 hown rfl (by decide) 47 (by decide) rfl (hts (.fieldLink RX12 112 "FactKeeperModel" "argument" "[I") (by decide +kernel)) (fun _ h9 => h9) dX12_isOne_62 h (fun v19 h => ?_)
            refine k_iconst (v := 5) o hb dX12_isOne_65 (by decide) ?_
            refine k_iload_n o hb dX12_isOne_66 rfl 1 rfl ?_
            refine k_imul o hb dX12_isOne_67 ?_
            refine k_iload o hb dX12_isOne_68 4 rfl ?_
            refine k_iadd o hb dX12_isOne_70 ?_
            refine k_iald o hb dX12_isOne_71 h (fun v20 h => ?_)
            refine k_aload_n o hb dX12_isOne_72 rfl 0 rfl ?_
            refine k_getF (C := RX12) (T := TX12) (N := 57) o hb hts in12 hown rfl (by decide) 47 (by decide) rfl (hts (.fieldLink RX12 112 "FactKeeperModel" "argument" "[I") (by decide +kernel)) (fun _ h9 => h9) dX12_isOne_73 h (fun v21 h => ?_)
            refine k_iconst (v := 5) o hb dX12_isOne_76 (by decide) ?_
            refine k_iload_n o hb dX12_isOne_77 rfl 1 rfl ?_
            refine k_imul o hb dX12_isOne_78 ?_
            refine k_iload o hb dX12_isOne_79 5 rfl ?_
            refine k_iadd o hb dX12_isOne_81 ?_
            refine k_iald o hb dX12_isOne_82 h (fun v22 h => ?_)
            refine k_icmp_ne (tgt := 113) o hb dX12_isOne_83 (by decide) h (fun h => ?_) (fun h => ?_)
            · skip
              refine k_aload_n o hb dX12_isOne_86 rfl 0 rfl ?_
              refine k_getF (C := RX12) (T := TX12) (N := 57) o hb hts in12 hown rfl (by decide) 13 (by decide) rfl (hts (.fieldLink RX12 46 "FactKeeperModel" "column" "[I") (by decide +kernel)) (fun _ h9 => h9) dX12_isOne_87 h (fun v23 h => ?_)
              refine k_iconst (v := 4) o hb dX12_isOne_90 (by decide) ?_
              refine k_iload_n o hb dX12_isOne_91 rfl 2 rfl ?_
              refine k_imul o hb dX12_isOne_92 ?_
              refine k_iload o hb dX12_isOne_93 4 rfl ?_
              refine k_iadd o hb dX12_isOne_95 ?_
              refine k_iald o hb dX12_isOne_96 h (fun v24 h => ?_)
              refine k_aload_n o hb dX12_isOne_97 rfl 0 rfl ?_
              refine k_getF (C := RX12) (T := TX12) (N := 57) o hb hts in12 hown rfl (by decide) 13 (by decide) rfl (hts (.fieldLink RX12 46 "FactKeeperModel" "column" "[I") (by decide +kernel)) (fun _ h9 => h9) dX12_isOne_98 h (fun v25 h => ?_)
              refine k_iconst (v := 4) o hb dX12_isOne_101 (by decide) ?_
              refine k_iload_n o hb dX12_isOne_102 rfl 2 rfl ?_
              refine k_imul o hb dX12_isOne_103 ?_
              refine k_iload o hb dX12_isOne_104 5 rfl ?_
              refine k_iadd o hb dX12_isOne_106 ?_
              refine k_iald o hb dX12_isOne_107 h (fun v26 h => ?_)
              refine k_icmp_eq (tgt := 113) o hb dX12_isOne_108 (by decide) h (fun h => ?_) (fun h => ?_)
              · skip
                exact KW.sub [0, 1, 2, 3, 4, 5] rfl (hj15 x11 h)
              · skip
                refine k_iconst (v := 0) o hb dX12_isOne_111 (by decide) ?_
                exact k_zret o hb B.hr fr dX12_isOne_112 h
            · skip
              exact KW.sub [0, 1, 2, 3, 4, 5] rfl (hj15 x11 h)
          · skip
            exact KW.sub [0, 1, 2, 3, 4, 5] rfl (hj15 x11 h)
        · skip
          exact KW.sub [0, 1, 2, 3, 4, 5] rfl (hj15 x11 h)
theorem dX12_match_0 : decode cX12_match 0 = .ok (.aload_n 0, 1) := by decide +kernel
theorem dX12_match_1 : decode cX12_match 1 = .ok (.getfield 106, 3) := by decide +kernel
theorem dX12_match_4 : decode cX12_match 4 = .ok (.iload_n 1, 1) := by decide +kernel
theorem dX12_match_5 : decode cX12_match 5 = .ok (.iaload, 1) := by decide +kernel
theorem dX12_match_6 : decode cX12_match 6 = .ok (.istore 4, 2) := by decide +kernel
theorem dX12_match_8 : decode cX12_match 8 = .ok (.iconst 0, 1) := by decide +kernel
theorem dX12_match_9 : decode cX12_match 9 = .ok (.istore 5, 2) := by decide +kernel
theorem dX12_match_11 : decode cX12_match 11 = .ok (.iconst 0, 1) := by decide +kernel
theorem dX12_match_12 : decode cX12_match 12 = .ok (.istore 6, 2) := by decide +kernel
theorem dX12_match_14 : decode cX12_match 14 = .ok (.iload 6, 2) := by decide +kernel
theorem dX12_match_16 : decode cX12_match 16 = .ok (.aload_n 0, 1) := by decide +kernel
theorem dX12_match_17 : decode cX12_match 17 = .ok (.getfield 21, 3) := by decide +kernel
theorem dX12_match_20 : decode cX12_match 20 = .ok (.iload 4, 2) := by decide +kernel
theorem dX12_match_22 : decode cX12_match 22 = .ok (.iaload, 1) := by decide +kernel
theorem dX12_match_23 : decode cX12_match 23 = .ok (.if_icmp .ge 67, 3) := by decide +kernel
theorem dX12_match_26 : decode cX12_match 26 = .ok (.aload_n 0, 1) := by decide +kernel
theorem dX12_match_27 : decode cX12_match 27 = .ok (.getfield 109, 3) := by decide +kernel
theorem dX12_match_30 : decode cX12_match 30 = .ok (.iconst 5, 1) := by decide +kernel
theorem dX12_match_31 : decode cX12_match 31 = .ok (.iload_n 1, 1) := by decide +kernel
theorem dX12_match_32 : decode cX12_match 32 = .ok (.imul, 1) := by decide +kernel
theorem dX12_match_33 : decode cX12_match 33 = .ok (.iload 6, 2) := by decide +kernel
theorem dX12_match_35 : decode cX12_match 35 = .ok (.iadd, 1) := by decide +kernel
theorem dX12_match_36 : decode cX12_match 36 = .ok (.iaload, 1) := by decide +kernel
theorem dX12_match_37 : decode cX12_match 37 = .ok (.iconst 2, 1) := by decide +kernel
theorem dX12_match_38 : decode cX12_match 38 = .ok (.if_icmp .eq 46, 3) := by decide +kernel
theorem dX12_match_41 : decode cX12_match 41 = .ok (.aload_n 0, 1) := by decide +kernel
theorem dX12_match_42 : decode cX12_match 42 = .ok (.iload_n 1, 1) := by decide +kernel
theorem dX12_match_43 : decode cX12_match 43 = .ok (.iconst 5, 1) := by decide +kernel
theorem dX12_match_44 : decode cX12_match 44 = .ok (.iload_n 1, 1) := by decide +kernel
theorem dX12_match_45 : decode cX12_match 45 = .ok (.imul, 1) := by decide +kernel
theorem dX12_match_46 : decode cX12_match 46 = .ok (.iload 6, 2) := by decide +kernel
theorem dX12_match_48 : decode cX12_match 48 = .ok (.iadd, 1) := by decide +kernel
theorem dX12_match_49 : decode cX12_match 49 = .ok (.invokevirtual 275, 3) := by decide +kernel
theorem dX12_match_52 : decode cX12_match 52 = .ok (.ifCond .ne 6, 3) := by decide +kernel
theorem dX12_match_55 : decode cX12_match 55 = .ok (.goto 29, 3) := by decide +kernel
theorem dX12_match_58 : decode cX12_match 58 = .ok (.iload 5, 2) := by decide +kernel
theorem dX12_match_60 : decode cX12_match 60 = .ok (.iconst 1, 1) := by decide +kernel
theorem dX12_match_61 : decode cX12_match 61 = .ok (.iload 6, 2) := by decide +kernel
theorem dX12_match_63 : decode cX12_match 63 = .ok (.ishl, 1) := by decide +kernel
theorem dX12_match_64 : decode cX12_match 64 = .ok (.ior, 1) := by decide +kernel
theorem dX12_match_65 : decode cX12_match 65 = .ok (.istore 5, 2) := by decide +kernel
theorem dX12_match_67 : decode cX12_match 67 = .ok (.aload_n 0, 1) := by decide +kernel
theorem dX12_match_68 : decode cX12_match 68 = .ok (.getfield 124, 3) := by decide +kernel
theorem dX12_match_71 : decode cX12_match 71 = .ok (.iload 6, 2) := by decide +kernel
theorem dX12_match_73 : decode cX12_match 73 = .ok (.aload_n 0, 1) := by decide +kernel
theorem dX12_match_74 : decode cX12_match 74 = .ok (.iconst 5, 1) := by decide +kernel
theorem dX12_match_75 : decode cX12_match 75 = .ok (.iload_n 1, 1) := by decide +kernel
theorem dX12_match_76 : decode cX12_match 76 = .ok (.imul, 1) := by decide +kernel
theorem dX12_match_77 : decode cX12_match 77 = .ok (.iload 6, 2) := by decide +kernel
theorem dX12_match_79 : decode cX12_match 79 = .ok (.iadd, 1) := by decide +kernel
theorem dX12_match_80 : decode cX12_match 80 = .ok (.invokevirtual 290, 3) := by decide +kernel
theorem dX12_match_83 : decode cX12_match 83 = .ok (.iastore, 1) := by decide +kernel
theorem dX12_match_84 : decode cX12_match 84 = .ok (.iinc 6 1, 3) := by decide +kernel
theorem dX12_match_87 : decode cX12_match 87 = .ok (.goto (-73), 3) := by decide +kernel
theorem dX12_match_90 : decode cX12_match 90 = .ok (.aload_n 0, 1) := by decide +kernel
theorem dX12_match_91 : decode cX12_match 91 = .ok (.iload 4, 2) := by decide +kernel
theorem dX12_match_93 : decode cX12_match 93 = .ok (.iload_n 2, 1) := by decide +kernel
theorem dX12_match_94 : decode cX12_match 94 = .ok (.iload 5, 2) := by decide +kernel
theorem dX12_match_96 : decode cX12_match 96 = .ok (.iload_n 3, 1) := by decide +kernel
theorem dX12_match_97 : decode cX12_match 97 = .ok (.aload_n 0, 1) := by decide +kernel
theorem dX12_match_98 : decode cX12_match 98 = .ok (.getfield 124, 3) := by decide +kernel
theorem dX12_match_101 : decode cX12_match 101 = .ok (.iconst 0, 1) := by decide +kernel
theorem dX12_match_102 : decode cX12_match 102 = .ok (.invokevirtual 210, 3) := by decide +kernel
theorem dX12_match_105 : decode cX12_match 105 = .ok (.istore 6, 2) := by decide +kernel
theorem dX12_match_107 : decode cX12_match 107 = .ok (.iload 6, 2) := by decide +kernel
theorem dX12_match_109 : decode cX12_match 109 = .ok (.ifCond .lt 52, 3) := by decide +kernel
theorem dX12_match_112 : decode cX12_match 112 = .ok (.aload_n 0, 1) := by decide +kernel
theorem dX12_match_113 : decode cX12_match 113 = .ok (.iload_n 1, 1) := by decide +kernel
theorem dX12_match_114 : decode cX12_match 114 = .ok (.iload 6, 2) := by decide +kernel
theorem dX12_match_116 : decode cX12_match 116 = .ok (.invokevirtual 293, 3) := by decide +kernel
theorem dX12_match_119 : decode cX12_match 119 = .ok (.ifCond .ne 42, 3) := by decide +kernel
theorem dX12_match_122 : decode cX12_match 122 = .ok (.aload_n 0, 1) := by decide +kernel
theorem dX12_match_123 : decode cX12_match 123 = .ok (.getfield 168, 3) := by decide +kernel
theorem dX12_match_126 : decode cX12_match 126 = .ok (.ldc 175, 2) := by decide +kernel
theorem dX12_match_128 : decode cX12_match 128 = .ok (.if_icmp .le 7, 3) := by decide +kernel
theorem dX12_match_131 : decode cX12_match 131 = .ok (.iconst (-1), 1) := by decide +kernel
theorem dX12_match_132 : decode cX12_match 132 = .ok (.goto 24, 3) := by decide +kernel
theorem dX12_match_135 : decode cX12_match 135 = .ok (.aload_n 0, 1) := by decide +kernel
theorem dX12_match_136 : decode cX12_match 136 = .ok (.iload 4, 2) := by decide +kernel
theorem dX12_match_138 : decode cX12_match 138 = .ok (.aload_n 0, 1) := by decide +kernel
theorem dX12_match_139 : decode cX12_match 139 = .ok (.getfield 61, 3) := by decide +kernel
theorem dX12_match_142 : decode cX12_match 142 = .ok (.iload 6, 2) := by decide +kernel
theorem dX12_match_144 : decode cX12_match 144 = .ok (.iaload, 1) := by decide +kernel
theorem dX12_match_145 : decode cX12_match 145 = .ok (.iload 5, 2) := by decide +kernel
theorem dX12_match_147 : decode cX12_match 147 = .ok (.iload_n 3, 1) := by decide +kernel
theorem dX12_match_148 : decode cX12_match 148 = .ok (.aload_n 0, 1) := by decide +kernel
theorem dX12_match_149 : decode cX12_match 149 = .ok (.getfield 124, 3) := by decide +kernel
theorem dX12_match_152 : decode cX12_match 152 = .ok (.iconst 0, 1) := by decide +kernel
theorem dX12_match_153 : decode cX12_match 153 = .ok (.invokevirtual 210, 3) := by decide +kernel
theorem dX12_match_156 : decode cX12_match 156 = .ok (.istore 6, 2) := by decide +kernel
theorem dX12_match_158 : decode cX12_match 158 = .ok (.goto (-51), 3) := by decide +kernel
theorem dX12_match_161 : decode cX12_match 161 = .ok (.iload 6, 2) := by decide +kernel
theorem dX12_match_163 : decode cX12_match 163 = .ok (.ireturn, 1) := by decide +kernel
theorem i9wsX12_match_0 : ∀ w ∈ wsX12_match_r1, w ∈ wsX12_match := fun _ h => (List.mem_cons_of_mem _ (List.mem_append_left _ (List.mem_append_left _ h)))
theorem i9wsX12_match_2 : ∀ w ∈ wsX120, w ∈ wsX12_match := fun _ h => (List.mem_cons_of_mem _ (List.mem_append_right _ h))
set_option maxRecDepth 20000 in
theorem ggX12_match_X12_isKnown : GoodIn wsX12_match wsX12_isKnown := (gin_c (mem_at i9wsX12_match_0 11 rfl) rfl (goodIn_app (gin_c (mem_at i9wsX12_match_0 2 rfl) rfl (gin_c (mem_at i9wsX12_match_0 12 rfl) rfl (gin_c (mem_at i9wsX12_match_0 13 rfl) rfl gin_n))) (goodIn_sub i9wsX12_match_2 g9_16)))
set_option maxRecDepth 20000 in
theorem gX12_match_X12_isKnown : GoodIn wsX12_match (wsV RX12 275 RX12 yX12_isKnown wsX12_isKnown) := goodIn_app (gin_c (mem_at i9wsX12_match_0 7 rfl) rfl (gin_c (mem_at i9wsX12_match_0 8 rfl) rfl (gin_c (mem_at i9wsX12_match_0 9 rfl) rfl (gin_c (mem_at i9wsX12_match_0 10 rfl) rfl gin_n)))) ggX12_match_X12_isKnown
set_option maxRecDepth 20000 in
theorem ggX12_match_X12_worth : GoodIn wsX12_match wsX12_worth := (gin_c (mem_at i9wsX12_match_0 17 rfl) rfl (goodIn_app (gin_c (mem_at i9wsX12_match_0 2 rfl) rfl (gin_c (mem_at i9wsX12_match_0 18 rfl) rfl (gin_c (mem_at i9wsX12_match_0 13 rfl) rfl gin_n))) (goodIn_sub i9wsX12_match_2 g9_16)))
set_option maxRecDepth 20000 in
theorem gX12_match_X12_worth : GoodIn wsX12_match (wsV RX12 290 RX12 yX12_worth wsX12_worth) := goodIn_app (gin_c (mem_at i9wsX12_match_0 14 rfl) rfl (gin_c (mem_at i9wsX12_match_0 15 rfl) rfl (gin_c (mem_at i9wsX12_match_0 16 rfl) rfl (gin_c (mem_at i9wsX12_match_0 10 rfl) rfl gin_n)))) ggX12_match_X12_worth
theorem i9wsX12_match_1 : ∀ w ∈ wsX12_match_r2, w ∈ wsX12_match := fun _ h => (List.mem_cons_of_mem _ (List.mem_append_left _ (List.mem_append_right _ h)))
set_option maxRecDepth 20000 in
theorem ggX12_match_X12_seek : GoodIn wsX12_match wsX12_seek := (gin_c (mem_at i9wsX12_match_0 22 rfl) rfl (goodIn_app (gin_c (mem_at i9wsX12_match_0 23 rfl) rfl (gin_c (mem_at i9wsX12_match_0 4 rfl) rfl (gin_c (mem_at i9wsX12_match_0 5 rfl) rfl (gin_c (mem_at i9wsX12_match_1 0 rfl) rfl (gin_c (mem_at i9wsX12_match_0 6 rfl) rfl (gin_c (mem_at i9wsX12_match_1 1 rfl) rfl (gin_c (mem_at i9wsX12_match_1 2 rfl) rfl (gin_c (mem_at i9wsX12_match_1 3 rfl) rfl (gin_c (mem_at i9wsX12_match_0 10 rfl) rfl (gin_c (mem_at i9wsX12_match_1 4 rfl) rfl (gin_c (mem_at i9wsX12_match_0 1 rfl) rfl (gin_c (mem_at i9wsX12_match_1 5 rfl) rfl (gin_c (mem_at i9wsX12_match_1 6 rfl) rfl (gin_c (mem_at i9wsX12_match_1 7 rfl) rfl (gin_c (mem_at i9wsX12_match_1 8 rfl) rfl (gin_c (mem_at i9wsX12_match_1 9 rfl) rfl (gin_c (mem_at i9wsX12_match_1 10 rfl) rfl (gin_c (mem_at i9wsX12_match_1 11 rfl) rfl (gin_c (mem_at i9wsX12_match_1 12 rfl) rfl (gin_c (mem_at i9wsX12_match_1 13 rfl) rfl (gin_c (mem_at i9wsX12_match_1 14 rfl) rfl (gin_c (mem_at i9wsX12_match_1 15 rfl) rfl (gin_c (mem_at i9wsX12_match_1 16 rfl) rfl gin_n))))))))))))))))))))))) (goodIn_sub i9wsX12_match_2 g9_16)))
set_option maxRecDepth 20000 in
theorem gX12_match_X12_seek : GoodIn wsX12_match (wsV RX12 210 RX12 yX12_seek wsX12_seek) := goodIn_app (gin_c (mem_at i9wsX12_match_0 19 rfl) rfl (gin_c (mem_at i9wsX12_match_0 20 rfl) rfl (gin_c (mem_at i9wsX12_match_0 21 rfl) rfl (gin_c (mem_at i9wsX12_match_0 10 rfl) rfl gin_n)))) ggX12_match_X12_seek
set_option maxRecDepth 20000 in
theorem ggX12_match_X12_isOne : GoodIn wsX12_match wsX12_isOne := (gin_c (mem_at i9wsX12_match_1 20 rfl) rfl (goodIn_app (gin_c (mem_at i9wsX12_match_0 1 rfl) rfl (gin_c (mem_at i9wsX12_match_0 0 rfl) rfl (gin_c (mem_at i9wsX12_match_0 2 rfl) rfl (gin_c (mem_at i9wsX12_match_0 13 rfl) rfl (gin_c (mem_at i9wsX12_match_0 23 rfl) rfl gin_n))))) (goodIn_sub i9wsX12_match_2 g9_16)))
set_option maxRecDepth 20000 in
theorem gX12_match_X12_isOne : GoodIn wsX12_match (wsV RX12 293 RX12 yX12_isOne wsX12_isOne) := goodIn_app (gin_c (mem_at i9wsX12_match_1 17 rfl) rfl (gin_c (mem_at i9wsX12_match_1 18 rfl) rfl (gin_c (mem_at i9wsX12_match_1 19 rfl) rfl (gin_c (mem_at i9wsX12_match_0 10 rfl) rfl gin_n)))) ggX12_match_X12_isOne
set_option maxHeartbeats 4000000 in
set_option maxRecDepth 100000 in
theorem T_X12_match (l : Launch) (hl : l.stackTraces = false) (D : va_G) (cA : Nat → ClassId) {l0 : Option Nat} {l1 : Int32} {l2 : Int32} {l3 : Int32} {x : HS} {Q : Int32 → HS → Prop} {X : String → HS → Prop} (h : w_X12_match l0 l1 l2 l3 x Q X) : YI l yX12_match wsX12_match 2 54 D cA [.q l0, .i l1, .i l2, .i l3] x Q X := by
  refine YI.of (cc := cX12_match) (maxL := 7) (ret := (some .int)) hl (by decide) rfl rfl (fun g B fr => ?_)
  have o := B.o
  have hb := B.hb
  have hts := B.hts
  have hown : g.s.vm.findClass RX12 = some g.m.cls := B.hown
  have in12 : ∀ w ∈ u_ws RX12 TX12 57, w ∈ wsX12_match := fun w h => (List.mem_cons_of_mem _ (List.mem_append_right _ h))
  unfold w_X12_match at h
  show KW g 7 0 [(0, .q l0), (1, .i l1), (2, .i l2), (3, .i l3)] [] x
  refine k_aload_n o hb dX12_match_0 rfl 0 rfl ?_
  refine k_getF (C := RX12) (T := TX12) (N := 57) o hb hts in12 hown rfl (by decide) 45 (by decide) rfl (hts (.fieldLink RX12 106 "FactKeeperModel" "goalTable" "[I") (by decide +kernel)) (fun _ h9 => h9) dX12_match_1 h (fun v1 h => ?_)
  refine k_iload_n o hb dX12_match_4 rfl 1 rfl ?_
  refine k_iald o hb dX12_match_5 h (fun v2 h => ?_)
  refine k_istore o hb dX12_match_6 rfl ?_
  refine k_iconst (v := 0) o hb dX12_match_8 (by decide) ?_
  refine k_istore o hb dX12_match_9 rfl ?_
  refine k_iconst (v := 0) o hb dX12_match_11 (by decide) ?_
  refine k_istore o hb dX12_match_12 rfl ?_
  refine KW.sub [3, 4, 5, 6, 2, 1, 0] rfl ?_
  refine wLoop_elim (M := fun (v6 : Int32 × Int32) (x5 : HS) => KW g 7 14 [(0, .q l0), (1, .i l1), (2, .i l2), (3, .i l3), (4, .i v2), (5, .i v6.1), (6, .i v6.2)] [] x5) h ?_
  intro v6 x5 again3 ih4 h
  refine k_iload o hb dX12_match_14 6 rfl ?_
  refine k_aload_n o hb dX12_match_16 rfl 0 rfl ?_
  refine k_getF (C := RX12) (T := TX12) (N := 57) o hb hts in12 hown rfl (by decide) 4 (by decide) rfl (hts (.fieldLink RX12 21 "FactKeeperModel" "columns" "[I") (by decide +kernel)) (fun _ h9 => h9) dX12_match_17 h (fun v7 h => ?_)
  refine k_iload o hb dX12_match_20 4 rfl ?_
  refine k_iald o hb dX12_match_22 h (fun v8 h => ?_)
  refine k_icmp_ge (tgt := 90) o hb dX12_match_23 (by decide) h (fun h => ?_) (fun h => ?_)
  · skip
    refine k_aload_n o hb dX12_match_90 rfl 0 rfl ?_
    refine k_iload o hb dX12_match_91 4 rfl ?_
    refine k_iload_n o hb dX12_match_93 rfl 2 rfl ?_
    refine k_iload o hb dX12_match_94 5 rfl ?_
    refine k_iload_n o hb dX12_match_96 rfl 3 rfl ?_
    refine k_aload_n o hb dX12_match_97 rfl 0 rfl ?_
    refine k_getF (C := RX12) (T := TX12) (N := 57) o hb hts in12 hown rfl (by decide) 52 (by decide) rfl (hts (.fieldLink RX12 124 "FactKeeperModel" "by" "[I") (by decide +kernel)) (fun _ h9 => h9) dX12_match_98 h (fun v9 h => ?_)
    refine k_iconst (v := 0) o hb dX12_match_101 (by decide) ?_
    refine k_run_i o (fun _ _ q => q) (k_runV (ci := 12) (rc := (RX12, TX12, 57)) o hb B.hml hown hts rfl (by decide) (T_X12_seek g.l o.hl g.D g.cA h.2) (cwV 6 hts gX12_match_X12_seek rfl rfl rfl (by decide +kernel) ⟨yle B.hR1 rfl, yle B.hR2 rfl⟩) h.1 rfl rfl (Nat.le_of_ble_eq_true rfl) dX12_match_102) (fun v11 x10 h => ?_)
    refine k_istore o hb dX12_match_105 rfl ?_
    refine KW.sub [1, 2, 4, 5, 6, 0] rfl ?_
    refine wLoop_elim (M := fun (v15 : Int32) (x14 : HS) => KW g 7 107 [(0, .q l0), (1, .i l1), (3, .i l3), (4, .i v2), (5, .i v6.1), (6, .i v15)] [] x14) h ?_
    intro v15 x14 again12 ih13 h
    refine k_iload o hb dX12_match_107 5 rfl ?_
    refine wJoin_elim (M := fun K => ∀  (x17 : HS), K  x17 → KW g 7 161 [(6, .i v15)] [] x17) h ?_ (fun j16 hj16 h => ?_)
    · skip
      intro  x17 h
      refine k_iload o hb dX12_match_161 0 rfl ?_
      exact k_iret o hb B.hr fr dX12_match_163 h
    · skip
      refine k_if_lt (tgt := 161) o hb dX12_match_109 (by decide) h (fun h => ?_) (fun h => ?_)
      · skip
        exact KW.sub [5] rfl (hj16 x14 h)
      · skip
        refine k_aload_n o hb dX12_match_112 rfl 0 rfl ?_
        refine k_iload_n o hb dX12_match_113 rfl 1 rfl ?_
        refine k_iload o hb dX12_match_114 5 rfl ?_
        refine k_run_i o (fun _ _ q => q) (k_runV (ci := 12) (rc := (RX12, TX12, 57)) o hb B.hml hown hts rfl (by decide) (T_X12_isOne g.l o.hl g.D g.cA h.2) (cwV 2 hts gX12_match_X12_isOne rfl rfl rfl (by decide +kernel) ⟨yle B.hR1 rfl, yle B.hR2 rfl⟩) h.1 rfl rfl (Nat.le_of_ble_eq_true rfl) dX12_match_116) (fun v19 x18 h => ?_)
        refine k_if_ne (tgt := 161) o hb dX12_match_119 (by decide) h (fun h => ?_) (fun h => ?_)
        · skip
          refine k_aload_n o hb dX12_match_122 rfl 0 rfl ?_
          refine k_getI (C := RX12) (T := TX12) (N := 57) o hb hts in12 hown rfl (by decide) 38 (by decide) rfl (hts (.fieldLink RX12 168 "FactKeeperModel" "looked" "I") (by decide +kernel)) (fun _ h9 => h9) dX12_match_123 h (fun v20 h => ?_)
          refine k_ldc (v := 50000) o hb hown (hts (.constant RX12 175 50000) (by decide +kernel)) dX12_match_126 ?_
          refine wJoin_elim (M := fun K => ∀ (v23 : Int32) (x22 : HS), K v23 x22 → KW g 7 156 [(0, .q l0), (1, .i l1), (3, .i l3), (4, .i v2), (5, .i v6.1)] [.i v23] x22) h ?_ (fun j21 hj21 h => ?_)
          · skip
            intro v23 x22 h
            refine k_istore o hb dX12_match_156 rfl ?_
            refine k_goto (tgt := 107) o hb dX12_match_158 (by decide) ?_
            exact KW.sub [1, 2, 3, 4, 5, 0] rfl (ih13 v23 x22 h)
          · skip
            refine k_icmp_le (tgt := 135) o hb dX12_match_128 (by decide) h (fun h => ?_) (fun h => ?_)
            · skip
              refine k_aload_n o hb dX12_match_135 rfl 0 rfl ?_
              refine k_iload o hb dX12_match_136 3 rfl ?_
              refine k_aload_n o hb dX12_match_138 rfl 0 rfl ?_
              refine k_getF (C := RX12) (T := TX12) (N := 57) o hb hts in12 hown rfl (by decide) 18 (by decide) rfl (hts (.fieldLink RX12 61 "FactKeeperModel" "behind" "[I") (by decide +kernel)) (fun _ h9 => h9) dX12_match_139 h (fun v24 h => ?_)
              refine k_iload o hb dX12_match_142 5 rfl ?_
              refine k_iald o hb dX12_match_144 h (fun v25 h => ?_)
              refine k_iload o hb dX12_match_145 4 rfl ?_
              refine k_iload_n o hb dX12_match_147 rfl 2 rfl ?_
              refine k_aload_n o hb dX12_match_148 rfl 0 rfl ?_
              refine k_getF (C := RX12) (T := TX12) (N := 57) o hb hts in12 hown rfl (by decide) 52 (by decide) rfl (hts (.fieldLink RX12 124 "FactKeeperModel" "by" "[I") (by decide +kernel)) (fun _ h9 => h9) dX12_match_149 h (fun v26 h => ?_)
              refine k_iconst (v := 0) o hb dX12_match_152 (by decide) ?_
              refine k_run_i o (fun _ _ q => q) (k_runV (ci := 12) (rc := (RX12, TX12, 57)) o hb B.hml hown hts rfl (by decide) (T_X12_seek g.l o.hl g.D g.cA h.2) (cwV 6 hts gX12_match_X12_seek rfl rfl rfl (by decide +kernel) ⟨yle B.hR1 rfl, yle B.hR2 rfl⟩) h.1 rfl rfl (Nat.le_of_ble_eq_true rfl) dX12_match_153) (fun v28 x27 h => ?_)
              exact KW.sub [0, 1, 2, 3, 4] rfl (hj21 v28 x27 h)
            · skip
              refine k_iconst (v := (-1)) o hb dX12_match_131 (by decide) ?_
              refine k_goto (tgt := 156) o hb dX12_match_132 (by decide) ?_
              exact KW.sub [0, 1, 2, 3, 4] rfl (hj21 (-1) x18 h)
        · skip
          exact KW.sub [5] rfl (hj16 x18 h)
  · skip
    refine k_aload_n o hb dX12_match_26 rfl 0 rfl ?_
    refine k_getF (C := RX12) (T := TX12) (N := 57) o hb hts in12 hown rfl (by decide) 46 (by decide) rfl (hts (.fieldLink RX12 109 "FactKeeperModel" "sort" "[I") (by decide +kernel)) (fun _ h9 => h9) dX12_match_27 h (fun v29 h => ?_)
    refine k_iconst (v := 5) o hb dX12_match_30 (by decide) ?_
    refine k_iload_n o hb dX12_match_31 rfl 1 rfl ?_
    refine k_imul o hb dX12_match_32 ?_
    refine k_iload o hb dX12_match_33 6 rfl ?_
    refine k_iadd o hb dX12_match_35 ?_
    refine k_iald o hb dX12_match_36 h (fun v30 h => ?_)
    refine k_iconst (v := 2) o hb dX12_match_37 (by decide) ?_
    refine wJoin_elim (M := fun K => ∀ (v33 : Int32) (x32 : HS), K v33 x32 → KW g 7 84 [(0, .q l0), (1, .i l1), (2, .i l2), (3, .i l3), (4, .i v2), (5, .i v33), (6, .i v6.2)] [] x32) h ?_ (fun j31 hj31 h => ?_)
    · skip
      intro v33 x32 h
      refine k_iinc (w := 1) o hb dX12_match_84 6 rfl (by decide) rfl ?_
      refine k_goto (tgt := 14) o hb dX12_match_87 (by decide) ?_
      exact KW.sub [1, 2, 3, 4, 5, 6, 0] rfl (ih4 (v33, (v6.2 + 1)) x32 h)
    · skip
      refine k_icmp_eq (tgt := 84) o hb dX12_match_38 (by decide) h (fun h => ?_) (fun h => ?_)
      · skip
        exact KW.sub [0, 1, 2, 3, 4, 5, 6] rfl (hj31 v6.1 x5 h)
      · skip
        refine k_aload_n o hb dX12_match_41 rfl 0 rfl ?_
        refine k_iload_n o hb dX12_match_42 rfl 1 rfl ?_
        refine k_iconst (v := 5) o hb dX12_match_43 (by decide) ?_
        refine k_iload_n o hb dX12_match_44 rfl 1 rfl ?_
        refine k_imul o hb dX12_match_45 ?_
        refine k_iload o hb dX12_match_46 6 rfl ?_
        refine k_iadd o hb dX12_match_48 ?_
        refine k_run_i o (fun _ _ q => q) (k_runV (ci := 12) (rc := (RX12, TX12, 57)) o hb B.hml hown hts rfl (by decide) (T_X12_isKnown g.l o.hl g.D g.cA h.2) (cwV 2 hts gX12_match_X12_isKnown rfl rfl rfl (by decide +kernel) ⟨yle B.hR1 rfl, yle B.hR2 rfl⟩) h.1 rfl rfl (Nat.le_of_ble_eq_true rfl) dX12_match_49) (fun v35 x34 h => ?_)
        refine k_if_ne (tgt := 58) o hb dX12_match_52 (by decide) h (fun h => ?_) (fun h => ?_)
        · skip
          refine k_goto (tgt := 84) o hb dX12_match_55 (by decide) ?_
          exact KW.sub [0, 1, 2, 3, 4, 5, 6] rfl (hj31 v6.1 x34 h)
        · skip
          refine k_iload o hb dX12_match_58 5 rfl ?_
          refine k_iconst (v := 1) o hb dX12_match_60 (by decide) ?_
          refine k_iload o hb dX12_match_61 6 rfl ?_
          refine k_ishl o hb dX12_match_63 ?_
          refine k_ior o hb dX12_match_64 ?_
          refine k_istore o hb dX12_match_65 rfl ?_
          refine k_aload_n o hb dX12_match_67 rfl 1 rfl ?_
          refine k_getF (C := RX12) (T := TX12) (N := 57) o hb hts in12 hown rfl (by decide) 52 (by decide) rfl (hts (.fieldLink RX12 124 "FactKeeperModel" "by" "[I") (by decide +kernel)) (fun _ h9 => h9) dX12_match_68 h (fun v36 h => ?_)
          refine k_iload o hb dX12_match_71 6 rfl ?_
          refine k_aload_n o hb dX12_match_73 rfl 1 rfl ?_
          refine k_iconst (v := 5) o hb dX12_match_74 (by decide) ?_
          refine k_iload_n o hb dX12_match_75 rfl 2 rfl ?_
          refine k_imul o hb dX12_match_76 ?_
          refine k_iload o hb dX12_match_77 6 rfl ?_
          refine k_iadd o hb dX12_match_79 ?_
          refine k_run_i o (fun _ _ q => q) (k_runV (ci := 12) (rc := (RX12, TX12, 57)) o hb B.hml hown hts rfl (by decide) (T_X12_worth g.l o.hl g.D g.cA h.2) (cwV 1 hts gX12_match_X12_worth rfl rfl rfl (by decide +kernel) ⟨yle B.hR1 rfl, yle B.hR2 rfl⟩) h.1 rfl rfl (Nat.le_of_ble_eq_true rfl) dX12_match_80) (fun v38 x37 h => ?_)
          refine k_iast o hb dX12_match_83 h (fun x39 h => ?_)
          exact KW.sub [1, 2, 3, 4, 5, 0, 6] rfl (hj31 (v6.1 ||| ((1 : Int32) <<< (v6.2 &&& 31))) x39 h)
theorem dX12_give_0 : decode cX12_give 0 = .ok (.aload_n 0, 1) := by decide +kernel
theorem dX12_give_1 : decode cX12_give 1 = .ok (.getfield 21, 3) := by decide +kernel
theorem dX12_give_4 : decode cX12_give 4 = .ok (.aload_n 0, 1) := by decide +kernel
theorem dX12_give_5 : decode cX12_give 5 = .ok (.getfield 106, 3) := by decide +kernel
theorem dX12_give_8 : decode cX12_give 8 = .ok (.iload_n 1, 1) := by decide +kernel
theorem dX12_give_9 : decode cX12_give 9 = .ok (.iaload, 1) := by decide +kernel
theorem dX12_give_10 : decode cX12_give 10 = .ok (.iaload, 1) := by decide +kernel
theorem dX12_give_11 : decode cX12_give 11 = .ok (.istore_n 3, 1) := by decide +kernel
theorem dX12_give_12 : decode cX12_give 12 = .ok (.iconst 0, 1) := by decide +kernel
theorem dX12_give_13 : decode cX12_give 13 = .ok (.istore 4, 2) := by decide +kernel
theorem dX12_give_15 : decode cX12_give 15 = .ok (.iload 4, 2) := by decide +kernel
theorem dX12_give_17 : decode cX12_give 17 = .ok (.iload_n 3, 1) := by decide +kernel
theorem dX12_give_18 : decode cX12_give 18 = .ok (.if_icmp .ge 51, 3) := by decide +kernel
theorem dX12_give_21 : decode cX12_give 21 = .ok (.aload_n 0, 1) := by decide +kernel
theorem dX12_give_22 : decode cX12_give 22 = .ok (.getfield 109, 3) := by decide +kernel
theorem dX12_give_25 : decode cX12_give 25 = .ok (.iconst 5, 1) := by decide +kernel
theorem dX12_give_26 : decode cX12_give 26 = .ok (.iload_n 1, 1) := by decide +kernel
theorem dX12_give_27 : decode cX12_give 27 = .ok (.imul, 1) := by decide +kernel
theorem dX12_give_28 : decode cX12_give 28 = .ok (.iload 4, 2) := by decide +kernel
theorem dX12_give_30 : decode cX12_give 30 = .ok (.iadd, 1) := by decide +kernel
theorem dX12_give_31 : decode cX12_give 31 = .ok (.iaload, 1) := by decide +kernel
theorem dX12_give_32 : decode cX12_give 32 = .ok (.iconst 1, 1) := by decide +kernel
theorem dX12_give_33 : decode cX12_give 33 = .ok (.if_icmp .ne 30, 3) := by decide +kernel
theorem dX12_give_36 : decode cX12_give 36 = .ok (.aload_n 0, 1) := by decide +kernel
theorem dX12_give_37 : decode cX12_give 37 = .ok (.getfield 118, 3) := by decide +kernel
theorem dX12_give_40 : decode cX12_give 40 = .ok (.aload_n 0, 1) := by decide +kernel
theorem dX12_give_41 : decode cX12_give 41 = .ok (.getfield 112, 3) := by decide +kernel
theorem dX12_give_44 : decode cX12_give 44 = .ok (.iconst 5, 1) := by decide +kernel
theorem dX12_give_45 : decode cX12_give 45 = .ok (.iload_n 1, 1) := by decide +kernel
theorem dX12_give_46 : decode cX12_give 46 = .ok (.imul, 1) := by decide +kernel
theorem dX12_give_47 : decode cX12_give 47 = .ok (.iload 4, 2) := by decide +kernel
theorem dX12_give_49 : decode cX12_give 49 = .ok (.iadd, 1) := by decide +kernel
theorem dX12_give_50 : decode cX12_give 50 = .ok (.iaload, 1) := by decide +kernel
theorem dX12_give_51 : decode cX12_give 51 = .ok (.aload_n 0, 1) := by decide +kernel
theorem dX12_give_52 : decode cX12_give 52 = .ok (.getfield 46, 3) := by decide +kernel
theorem dX12_give_55 : decode cX12_give 55 = .ok (.iconst 4, 1) := by decide +kernel
theorem dX12_give_56 : decode cX12_give 56 = .ok (.iload_n 2, 1) := by decide +kernel
theorem dX12_give_57 : decode cX12_give 57 = .ok (.imul, 1) := by decide +kernel
theorem dX12_give_58 : decode cX12_give 58 = .ok (.iload 4, 2) := by decide +kernel
theorem dX12_give_60 : decode cX12_give 60 = .ok (.iadd, 1) := by decide +kernel
theorem dX12_give_61 : decode cX12_give 61 = .ok (.iaload, 1) := by decide +kernel
theorem dX12_give_62 : decode cX12_give 62 = .ok (.iastore, 1) := by decide +kernel
theorem dX12_give_63 : decode cX12_give 63 = .ok (.iinc 4 1, 3) := by decide +kernel
theorem dX12_give_66 : decode cX12_give 66 = .ok (.goto (-51), 3) := by decide +kernel
theorem dX12_give_69 : decode cX12_give 69 = .ok (.return_, 1) := by decide +kernel
set_option maxHeartbeats 4000000 in
set_option maxRecDepth 100000 in
theorem T_X12_give (l : Launch) (hl : l.stackTraces = false) (D : va_G) (cA : Nat → ClassId) {l0 : Option Nat} {l1 : Int32} {l2 : Int32} {x : HS} {Q : HS → Prop} {X : String → HS → Prop} (h : w_X12_give l0 l1 l2 x Q X) : YV l yX12_give wsX12_give 0 0 D cA [.q l0, .i l1, .i l2] x Q X := by
  refine YV.of (cc := cX12_give) (maxL := 5) (ret := none) hl (by decide) rfl rfl (fun g B fr => ?_)
  have o := B.o
  have hb := B.hb
  have hts := B.hts
  have hown : g.s.vm.findClass RX12 = some g.m.cls := B.hown
  have in12 : ∀ w ∈ u_ws RX12 TX12 57, w ∈ wsX12_give := fun w h => (List.mem_cons_of_mem _ (List.mem_append_right _ h))
  unfold w_X12_give at h
  show KW g 5 0 [(0, .q l0), (1, .i l1), (2, .i l2)] [] x
  refine k_aload_n o hb dX12_give_0 rfl 0 rfl ?_
  refine k_getF (C := RX12) (T := TX12) (N := 57) o hb hts in12 hown rfl (by decide) 4 (by decide) rfl (hts (.fieldLink RX12 21 "FactKeeperModel" "columns" "[I") (by decide +kernel)) (fun _ h9 => h9) dX12_give_1 h (fun v1 h => ?_)
  refine k_aload_n o hb dX12_give_4 rfl 0 rfl ?_
  refine k_getF (C := RX12) (T := TX12) (N := 57) o hb hts in12 hown rfl (by decide) 45 (by decide) rfl (hts (.fieldLink RX12 106 "FactKeeperModel" "goalTable" "[I") (by decide +kernel)) (fun _ h9 => h9) dX12_give_5 h (fun v2 h => ?_)
  refine k_iload_n o hb dX12_give_8 rfl 1 rfl ?_
  refine k_iald o hb dX12_give_9 h (fun v3 h => ?_)
  refine k_iald o hb dX12_give_10 h (fun v4 h => ?_)
  refine k_istore_n o hb dX12_give_11 rfl rfl ?_
  refine k_iconst (v := 0) o hb dX12_give_12 (by decide) ?_
  refine k_istore o hb dX12_give_13 rfl ?_
  refine KW.sub [2, 3, 4, 1, 0] rfl ?_
  refine wLoop_elim (M := fun (v8 : Int32) (x7 : HS) => KW g 5 15 [(0, .q l0), (1, .i l1), (2, .i l2), (3, .i v4), (4, .i v8)] [] x7) h ?_
  intro v8 x7 again5 ih6 h
  refine k_iload o hb dX12_give_15 4 rfl ?_
  refine k_iload_n o hb dX12_give_17 rfl 3 rfl ?_
  refine k_icmp_ge (tgt := 69) o hb dX12_give_18 (by decide) h (fun h => ?_) (fun h => ?_)
  · skip
    exact k_vret o hb B.hr fr dX12_give_69 h
  · skip
    refine k_aload_n o hb dX12_give_21 rfl 0 rfl ?_
    refine k_getF (C := RX12) (T := TX12) (N := 57) o hb hts in12 hown rfl (by decide) 46 (by decide) rfl (hts (.fieldLink RX12 109 "FactKeeperModel" "sort" "[I") (by decide +kernel)) (fun _ h9 => h9) dX12_give_22 h (fun v9 h => ?_)
    refine k_iconst (v := 5) o hb dX12_give_25 (by decide) ?_
    refine k_iload_n o hb dX12_give_26 rfl 1 rfl ?_
    refine k_imul o hb dX12_give_27 ?_
    refine k_iload o hb dX12_give_28 4 rfl ?_
    refine k_iadd o hb dX12_give_30 ?_
    refine k_iald o hb dX12_give_31 h (fun v10 h => ?_)
    refine k_iconst (v := 1) o hb dX12_give_32 (by decide) ?_
    refine wJoin_elim (M := fun K => ∀  (x12 : HS), K  x12 → KW g 5 63 [(0, .q l0), (1, .i l1), (2, .i l2), (3, .i v4), (4, .i v8)] [] x12) h ?_ (fun j11 hj11 h => ?_)
    · skip
      intro  x12 h
      refine k_iinc (w := 1) o hb dX12_give_63 4 rfl (by decide) rfl ?_
      refine k_goto (tgt := 15) o hb dX12_give_66 (by decide) ?_
      exact KW.sub [1, 2, 3, 4, 0] rfl (ih6 (v8 + 1) x12 h)
    · skip
      refine k_icmp_ne (tgt := 63) o hb dX12_give_33 (by decide) h (fun h => ?_) (fun h => ?_)
      · skip
        refine k_aload_n o hb dX12_give_36 rfl 0 rfl ?_
        refine k_getF (C := RX12) (T := TX12) (N := 57) o hb hts in12 hown rfl (by decide) 50 (by decide) rfl (hts (.fieldLink RX12 118 "FactKeeperModel" "variable" "[I") (by decide +kernel)) (fun _ h9 => h9) dX12_give_37 h (fun v13 h => ?_)
        refine k_aload_n o hb dX12_give_40 rfl 0 rfl ?_
        refine k_getF (C := RX12) (T := TX12) (N := 57) o hb hts in12 hown rfl (by decide) 47 (by decide) rfl (hts (.fieldLink RX12 112 "FactKeeperModel" "argument" "[I") (by decide +kernel)) (fun _ h9 => h9) dX12_give_41 h (fun v14 h => ?_)
        refine k_iconst (v := 5) o hb dX12_give_44 (by decide) ?_
        refine k_iload_n o hb dX12_give_45 rfl 1 rfl ?_
        refine k_imul o hb dX12_give_46 ?_
        refine k_iload o hb dX12_give_47 4 rfl ?_
        refine k_iadd o hb dX12_give_49 ?_
        refine k_iald o hb dX12_give_50 h (fun v15 h => ?_)
        refine k_aload_n o hb dX12_give_51 rfl 0 rfl ?_
        refine k_getF (C := RX12) (T := TX12) (N := 57) o hb hts in12 hown rfl (by decide) 13 (by decide) rfl (hts (.fieldLink RX12 46 "FactKeeperModel" "column" "[I") (by decide +kernel)) (fun _ h9 => h9) dX12_give_52 h (fun v16 h => ?_)
        refine k_iconst (v := 4) o hb dX12_give_55 (by decide) ?_
        refine k_iload_n o hb dX12_give_56 rfl 2 rfl ?_
        refine k_imul o hb dX12_give_57 ?_
        refine k_iload o hb dX12_give_58 4 rfl ?_
        refine k_iadd o hb dX12_give_60 ?_
        refine k_iald o hb dX12_give_61 h (fun v17 h => ?_)
        refine k_iast o hb dX12_give_62 h (fun x18 h => ?_)
        exact KW.sub [0, 1, 2, 3, 4] rfl (hj11 x18 h)
      · skip
        exact KW.sub [0, 1, 2, 3, 4] rfl (hj11 x7 h)
theorem dX12_holds_0 : decode cX12_holds 0 = .ok (.aload_n 0, 1) := by decide +kernel
theorem dX12_holds_1 : decode cX12_holds 1 = .ok (.getfield 103, 3) := by decide +kernel
theorem dX12_holds_4 : decode cX12_holds 4 = .ok (.iload_n 1, 1) := by decide +kernel
theorem dX12_holds_5 : decode cX12_holds 5 = .ok (.iaload, 1) := by decide +kernel
theorem dX12_holds_6 : decode cX12_holds 6 = .ok (.iconst 1, 1) := by decide +kernel
theorem dX12_holds_7 : decode cX12_holds 7 = .ok (.if_icmp .ne 29, 3) := by decide +kernel
theorem dX12_holds_10 : decode cX12_holds 10 = .ok (.aload_n 0, 1) := by decide +kernel
theorem dX12_holds_11 : decode cX12_holds 11 = .ok (.iload_n 1, 1) := by decide +kernel
theorem dX12_holds_12 : decode cX12_holds 12 = .ok (.aload_n 0, 1) := by decide +kernel
theorem dX12_holds_13 : decode cX12_holds 13 = .ok (.getfield 30, 3) := by decide +kernel
theorem dX12_holds_16 : decode cX12_holds 16 = .ok (.aload_n 0, 1) := by decide +kernel
theorem dX12_holds_17 : decode cX12_holds 17 = .ok (.getfield 106, 3) := by decide +kernel
theorem dX12_holds_20 : decode cX12_holds 20 = .ok (.iload_n 1, 1) := by decide +kernel
theorem dX12_holds_21 : decode cX12_holds 21 = .ok (.iaload, 1) := by decide +kernel
theorem dX12_holds_22 : decode cX12_holds 22 = .ok (.iaload, 1) := by decide +kernel
theorem dX12_holds_23 : decode cX12_holds 23 = .ok (.iload_n 2, 1) := by decide +kernel
theorem dX12_holds_24 : decode cX12_holds 24 = .ok (.invokevirtual 296, 3) := by decide +kernel
theorem dX12_holds_27 : decode cX12_holds 27 = .ok (.ifCond .ge 7, 3) := by decide +kernel
theorem dX12_holds_30 : decode cX12_holds 30 = .ok (.iconst 1, 1) := by decide +kernel
theorem dX12_holds_31 : decode cX12_holds 31 = .ok (.goto 4, 3) := by decide +kernel
theorem dX12_holds_34 : decode cX12_holds 34 = .ok (.iconst 0, 1) := by decide +kernel
theorem dX12_holds_35 : decode cX12_holds 35 = .ok (.ireturn, 1) := by decide +kernel
theorem dX12_holds_36 : decode cX12_holds 36 = .ok (.aload_n 0, 1) := by decide +kernel
theorem dX12_holds_37 : decode cX12_holds 37 = .ok (.iconst 5, 1) := by decide +kernel
theorem dX12_holds_38 : decode cX12_holds 38 = .ok (.iload_n 1, 1) := by decide +kernel
theorem dX12_holds_39 : decode cX12_holds 39 = .ok (.imul, 1) := by decide +kernel
theorem dX12_holds_40 : decode cX12_holds 40 = .ok (.invokevirtual 290, 3) := by decide +kernel
theorem dX12_holds_43 : decode cX12_holds 43 = .ok (.istore_n 3, 1) := by decide +kernel
theorem dX12_holds_44 : decode cX12_holds 44 = .ok (.aload_n 0, 1) := by decide +kernel
theorem dX12_holds_45 : decode cX12_holds 45 = .ok (.iconst 5, 1) := by decide +kernel
theorem dX12_holds_46 : decode cX12_holds 46 = .ok (.iload_n 1, 1) := by decide +kernel
theorem dX12_holds_47 : decode cX12_holds 47 = .ok (.imul, 1) := by decide +kernel
theorem dX12_holds_48 : decode cX12_holds 48 = .ok (.iconst 1, 1) := by decide +kernel
theorem dX12_holds_49 : decode cX12_holds 49 = .ok (.iadd, 1) := by decide +kernel
theorem dX12_holds_50 : decode cX12_holds 50 = .ok (.invokevirtual 290, 3) := by decide +kernel
theorem dX12_holds_53 : decode cX12_holds 53 = .ok (.istore 4, 2) := by decide +kernel
theorem dX12_holds_55 : decode cX12_holds 55 = .ok (.aload_n 0, 1) := by decide +kernel
theorem dX12_holds_56 : decode cX12_holds 56 = .ok (.getfield 103, 3) := by decide +kernel
theorem dX12_holds_59 : decode cX12_holds 59 = .ok (.iload_n 1, 1) := by decide +kernel
theorem dX12_holds_60 : decode cX12_holds 60 = .ok (.iaload, 1) := by decide +kernel
theorem dX12_holds_61 : decode cX12_holds 61 = .ok (.iconst 2, 1) := by decide +kernel
theorem dX12_holds_62 : decode cX12_holds 62 = .ok (.if_icmp .ne 15, 3) := by decide +kernel
theorem dX12_holds_65 : decode cX12_holds 65 = .ok (.iload_n 3, 1) := by decide +kernel
theorem dX12_holds_66 : decode cX12_holds 66 = .ok (.iload 4, 2) := by decide +kernel
theorem dX12_holds_68 : decode cX12_holds 68 = .ok (.if_icmp .ge 7, 3) := by decide +kernel
theorem dX12_holds_71 : decode cX12_holds 71 = .ok (.iconst 1, 1) := by decide +kernel
theorem dX12_holds_72 : decode cX12_holds 72 = .ok (.goto 4, 3) := by decide +kernel
theorem dX12_holds_75 : decode cX12_holds 75 = .ok (.iconst 0, 1) := by decide +kernel
theorem dX12_holds_76 : decode cX12_holds 76 = .ok (.ireturn, 1) := by decide +kernel
theorem dX12_holds_77 : decode cX12_holds 77 = .ok (.aload_n 0, 1) := by decide +kernel
theorem dX12_holds_78 : decode cX12_holds 78 = .ok (.getfield 103, 3) := by decide +kernel
theorem dX12_holds_81 : decode cX12_holds 81 = .ok (.iload_n 1, 1) := by decide +kernel
theorem dX12_holds_82 : decode cX12_holds 82 = .ok (.iaload, 1) := by decide +kernel
theorem dX12_holds_83 : decode cX12_holds 83 = .ok (.iconst 3, 1) := by decide +kernel
theorem dX12_holds_84 : decode cX12_holds 84 = .ok (.if_icmp .ne 15, 3) := by decide +kernel
theorem dX12_holds_87 : decode cX12_holds 87 = .ok (.iload_n 3, 1) := by decide +kernel
theorem dX12_holds_88 : decode cX12_holds 88 = .ok (.iload 4, 2) := by decide +kernel
theorem dX12_holds_90 : decode cX12_holds 90 = .ok (.if_icmp .ne 7, 3) := by decide +kernel
theorem dX12_holds_93 : decode cX12_holds 93 = .ok (.iconst 1, 1) := by decide +kernel
theorem dX12_holds_94 : decode cX12_holds 94 = .ok (.goto 4, 3) := by decide +kernel
theorem dX12_holds_97 : decode cX12_holds 97 = .ok (.iconst 0, 1) := by decide +kernel
theorem dX12_holds_98 : decode cX12_holds 98 = .ok (.ireturn, 1) := by decide +kernel
theorem dX12_holds_99 : decode cX12_holds 99 = .ok (.aload_n 0, 1) := by decide +kernel
theorem dX12_holds_100 : decode cX12_holds 100 = .ok (.getfield 103, 3) := by decide +kernel
theorem dX12_holds_103 : decode cX12_holds 103 = .ok (.iload_n 1, 1) := by decide +kernel
theorem dX12_holds_104 : decode cX12_holds 104 = .ok (.iaload, 1) := by decide +kernel
theorem dX12_holds_105 : decode cX12_holds 105 = .ok (.iconst 4, 1) := by decide +kernel
theorem dX12_holds_106 : decode cX12_holds 106 = .ok (.if_icmp .ne 15, 3) := by decide +kernel
theorem dX12_holds_109 : decode cX12_holds 109 = .ok (.iload_n 3, 1) := by decide +kernel
theorem dX12_holds_110 : decode cX12_holds 110 = .ok (.iload 4, 2) := by decide +kernel
theorem dX12_holds_112 : decode cX12_holds 112 = .ok (.if_icmp .eq 7, 3) := by decide +kernel
theorem dX12_holds_115 : decode cX12_holds 115 = .ok (.iconst 1, 1) := by decide +kernel
theorem dX12_holds_116 : decode cX12_holds 116 = .ok (.goto 4, 3) := by decide +kernel
theorem dX12_holds_119 : decode cX12_holds 119 = .ok (.iconst 0, 1) := by decide +kernel
theorem dX12_holds_120 : decode cX12_holds 120 = .ok (.ireturn, 1) := by decide +kernel
theorem dX12_holds_121 : decode cX12_holds 121 = .ok (.aload_n 0, 1) := by decide +kernel
theorem dX12_holds_122 : decode cX12_holds 122 = .ok (.iconst 5, 1) := by decide +kernel
theorem dX12_holds_123 : decode cX12_holds 123 = .ok (.iload_n 1, 1) := by decide +kernel
theorem dX12_holds_124 : decode cX12_holds 124 = .ok (.imul, 1) := by decide +kernel
theorem dX12_holds_125 : decode cX12_holds 125 = .ok (.iconst 2, 1) := by decide +kernel
theorem dX12_holds_126 : decode cX12_holds 126 = .ok (.iadd, 1) := by decide +kernel
theorem dX12_holds_127 : decode cX12_holds 127 = .ok (.invokevirtual 290, 3) := by decide +kernel
theorem dX12_holds_130 : decode cX12_holds 130 = .ok (.istore 5, 2) := by decide +kernel
theorem dX12_holds_132 : decode cX12_holds 132 = .ok (.aload_n 0, 1) := by decide +kernel
theorem dX12_holds_133 : decode cX12_holds 133 = .ok (.getfield 118, 3) := by decide +kernel
theorem dX12_holds_136 : decode cX12_holds 136 = .ok (.aload_n 0, 1) := by decide +kernel
theorem dX12_holds_137 : decode cX12_holds 137 = .ok (.getfield 112, 3) := by decide +kernel
theorem dX12_holds_140 : decode cX12_holds 140 = .ok (.iconst 5, 1) := by decide +kernel
theorem dX12_holds_141 : decode cX12_holds 141 = .ok (.iload_n 1, 1) := by decide +kernel
theorem dX12_holds_142 : decode cX12_holds 142 = .ok (.imul, 1) := by decide +kernel
theorem dX12_holds_143 : decode cX12_holds 143 = .ok (.iaload, 1) := by decide +kernel
theorem dX12_holds_144 : decode cX12_holds 144 = .ok (.aload_n 0, 1) := by decide +kernel
theorem dX12_holds_145 : decode cX12_holds 145 = .ok (.getfield 103, 3) := by decide +kernel
theorem dX12_holds_148 : decode cX12_holds 148 = .ok (.iload_n 1, 1) := by decide +kernel
theorem dX12_holds_149 : decode cX12_holds 149 = .ok (.iaload, 1) := by decide +kernel
theorem dX12_holds_150 : decode cX12_holds 150 = .ok (.iconst 5, 1) := by decide +kernel
theorem dX12_holds_151 : decode cX12_holds 151 = .ok (.if_icmp .ne 11, 3) := by decide +kernel
theorem dX12_holds_154 : decode cX12_holds 154 = .ok (.iload 4, 2) := by decide +kernel
theorem dX12_holds_156 : decode cX12_holds 156 = .ok (.iload 5, 2) := by decide +kernel
theorem dX12_holds_158 : decode cX12_holds 158 = .ok (.iadd, 1) := by decide +kernel
theorem dX12_holds_159 : decode cX12_holds 159 = .ok (.goto 27, 3) := by decide +kernel
theorem dX12_holds_162 : decode cX12_holds 162 = .ok (.aload_n 0, 1) := by decide +kernel
theorem dX12_holds_163 : decode cX12_holds 163 = .ok (.getfield 103, 3) := by decide +kernel
theorem dX12_holds_166 : decode cX12_holds 166 = .ok (.iload_n 1, 1) := by decide +kernel
theorem dX12_holds_167 : decode cX12_holds 167 = .ok (.iaload, 1) := by decide +kernel
theorem dX12_holds_168 : decode cX12_holds 168 = .ok (.bipush 6, 2) := by decide +kernel
theorem dX12_holds_170 : decode cX12_holds 170 = .ok (.if_icmp .ne 11, 3) := by decide +kernel
theorem dX12_holds_173 : decode cX12_holds 173 = .ok (.iload 4, 2) := by decide +kernel
theorem dX12_holds_175 : decode cX12_holds 175 = .ok (.iload 5, 2) := by decide +kernel
theorem dX12_holds_177 : decode cX12_holds 177 = .ok (.isub, 1) := by decide +kernel
theorem dX12_holds_178 : decode cX12_holds 178 = .ok (.goto 8, 3) := by decide +kernel
theorem dX12_holds_181 : decode cX12_holds 181 = .ok (.iload 4, 2) := by decide +kernel
theorem dX12_holds_183 : decode cX12_holds 183 = .ok (.iload 5, 2) := by decide +kernel
theorem dX12_holds_185 : decode cX12_holds 185 = .ok (.imul, 1) := by decide +kernel
theorem dX12_holds_186 : decode cX12_holds 186 = .ok (.iastore, 1) := by decide +kernel
theorem dX12_holds_187 : decode cX12_holds 187 = .ok (.iconst 1, 1) := by decide +kernel
theorem dX12_holds_188 : decode cX12_holds 188 = .ok (.ireturn, 1) := by decide +kernel
theorem i9wsX12_holds_0 : ∀ w ∈ wsX12_holds_r1, w ∈ wsX12_holds := fun _ h => (List.mem_cons_of_mem _ (List.mem_append_left _ (List.mem_append_left _ h)))
theorem i9wsX12_holds_1 : ∀ w ∈ wsX12_holds_r2, w ∈ wsX12_holds := fun _ h => (List.mem_cons_of_mem _ (List.mem_append_left _ (List.mem_append_right _ (List.mem_append_left _ h))))
theorem i9wsX12_holds_2 : ∀ w ∈ wsX12_holds_r3, w ∈ wsX12_holds := fun _ h => (List.mem_cons_of_mem _ (List.mem_append_left _ (List.mem_append_right _ (List.mem_append_right _ h))))
theorem i9wsX12_holds_3 : ∀ w ∈ wsX120, w ∈ wsX12_holds := fun _ h => (List.mem_cons_of_mem _ (List.mem_append_right _ h))
set_option maxRecDepth 20000 in
theorem ggX12_holds_X12_match : GoodIn wsX12_holds wsX12_match := (gin_c (mem_at i9wsX12_holds_0 9 rfl) rfl (goodIn_app (goodIn_app (gin_c (mem_at i9wsX12_holds_0 2 rfl) rfl (gin_c (mem_at i9wsX12_holds_0 10 rfl) rfl (gin_c (mem_at i9wsX12_holds_0 11 rfl) rfl (gin_c (mem_at i9wsX12_holds_0 12 rfl) rfl (gin_c (mem_at i9wsX12_holds_0 13 rfl) rfl (gin_c (mem_at i9wsX12_holds_0 14 rfl) rfl (gin_c (mem_at i9wsX12_holds_0 15 rfl) rfl (gin_c (mem_at i9wsX12_holds_0 16 rfl) rfl (gin_c (mem_at i9wsX12_holds_0 17 rfl) rfl (gin_c (mem_at i9wsX12_holds_0 18 rfl) rfl (gin_c (mem_at i9wsX12_holds_0 8 rfl) rfl (gin_c (mem_at i9wsX12_holds_0 19 rfl) rfl (gin_c (mem_at i9wsX12_holds_0 20 rfl) rfl (gin_c (mem_at i9wsX12_holds_0 4 rfl) rfl (gin_c (mem_at i9wsX12_holds_0 21 rfl) rfl (gin_c (mem_at i9wsX12_holds_0 22 rfl) rfl (gin_c (mem_at i9wsX12_holds_0 23 rfl) rfl (gin_c (mem_at i9wsX12_holds_1 0 rfl) rfl (gin_c (mem_at i9wsX12_holds_0 3 rfl) rfl (gin_c (mem_at i9wsX12_holds_1 1 rfl) rfl (gin_c (mem_at i9wsX12_holds_1 2 rfl) rfl (gin_c (mem_at i9wsX12_holds_1 3 rfl) rfl (gin_c (mem_at i9wsX12_holds_1 4 rfl) rfl (gin_c (mem_at i9wsX12_holds_1 5 rfl) rfl gin_n)))))))))))))))))))))))) (gin_c (mem_at i9wsX12_holds_1 6 rfl) rfl (gin_c (mem_at i9wsX12_holds_1 7 rfl) rfl (gin_c (mem_at i9wsX12_holds_1 8 rfl) rfl (gin_c (mem_at i9wsX12_holds_1 9 rfl) rfl (gin_c (mem_at i9wsX12_holds_1 10 rfl) rfl (gin_c (mem_at i9wsX12_holds_1 11 rfl) rfl (gin_c (mem_at i9wsX12_holds_1 12 rfl) rfl (gin_c (mem_at i9wsX12_holds_1 13 rfl) rfl (gin_c (mem_at i9wsX12_holds_1 14 rfl) rfl (gin_c (mem_at i9wsX12_holds_1 15 rfl) rfl (gin_c (mem_at i9wsX12_holds_1 16 rfl) rfl (gin_c (mem_at i9wsX12_holds_1 17 rfl) rfl (gin_c (mem_at i9wsX12_holds_1 18 rfl) rfl (gin_c (mem_at i9wsX12_holds_1 19 rfl) rfl (gin_c (mem_at i9wsX12_holds_1 20 rfl) rfl (gin_c (mem_at i9wsX12_holds_1 21 rfl) rfl (gin_c (mem_at i9wsX12_holds_1 22 rfl) rfl (gin_c (mem_at i9wsX12_holds_1 23 rfl) rfl (gin_c (mem_at i9wsX12_holds_2 0 rfl) rfl (gin_c (mem_at i9wsX12_holds_2 1 rfl) rfl (gin_c (mem_at i9wsX12_holds_2 2 rfl) rfl gin_n)))))))))))))))))))))) (goodIn_sub i9wsX12_holds_3 g9_16)))
set_option maxRecDepth 20000 in
theorem gX12_holds_X12_match : GoodIn wsX12_holds (wsV RX12 296 RX12 yX12_match wsX12_match) := goodIn_app (gin_c (mem_at i9wsX12_holds_0 5 rfl) rfl (gin_c (mem_at i9wsX12_holds_0 6 rfl) rfl (gin_c (mem_at i9wsX12_holds_0 7 rfl) rfl (gin_c (mem_at i9wsX12_holds_0 8 rfl) rfl gin_n)))) ggX12_holds_X12_match
set_option maxRecDepth 20000 in
theorem ggX12_holds_X12_worth : GoodIn wsX12_holds wsX12_worth := (gin_c (mem_at i9wsX12_holds_1 0 rfl) rfl (goodIn_app (gin_c (mem_at i9wsX12_holds_0 11 rfl) rfl (gin_c (mem_at i9wsX12_holds_0 3 rfl) rfl (gin_c (mem_at i9wsX12_holds_0 4 rfl) rfl gin_n))) (goodIn_sub i9wsX12_holds_3 g9_16)))
set_option maxRecDepth 20000 in
theorem gX12_holds_X12_worth : GoodIn wsX12_holds (wsV RX12 290 RX12 yX12_worth wsX12_worth) := goodIn_app (gin_c (mem_at i9wsX12_holds_0 21 rfl) rfl (gin_c (mem_at i9wsX12_holds_0 22 rfl) rfl (gin_c (mem_at i9wsX12_holds_0 23 rfl) rfl (gin_c (mem_at i9wsX12_holds_0 8 rfl) rfl gin_n)))) ggX12_holds_X12_worth
set_option maxHeartbeats 4000000 in
set_option maxRecDepth 100000 in
theorem T_X12_holds (l : Launch) (hl : l.stackTraces = false) (D : va_G) (cA : Nat → ClassId) {l0 : Option Nat} {l1 : Int32} {l2 : Int32} {x : HS} {Q : Int32 → HS → Prop} {X : String → HS → Prop} (h : w_X12_holds l0 l1 l2 x Q X) : YI l yX12_holds wsX12_holds 3 80 D cA [.q l0, .i l1, .i l2] x Q X := by
  refine YI.of (cc := cX12_holds) (maxL := 6) (ret := (some .boolean)) hl (by decide) rfl rfl (fun g B fr => ?_)
  have o := B.o
  have hb := B.hb
  have hts := B.hts
  have hown : g.s.vm.findClass RX12 = some g.m.cls := B.hown
  have in12 : ∀ w ∈ u_ws RX12 TX12 57, w ∈ wsX12_holds := fun w h => (List.mem_cons_of_mem _ (List.mem_append_right _ h))
  unfold w_X12_holds at h
  show KW g 6 0 [(0, .q l0), (1, .i l1), (2, .i l2)] [] x
  refine k_aload_n o hb dX12_holds_0 rfl 0 rfl ?_
  refine k_getF (C := RX12) (T := TX12) (N := 57) o hb hts in12 hown rfl (by decide) 44 (by decide) rfl (hts (.fieldLink RX12 103 "FactKeeperModel" "goal" "[I") (by decide +kernel)) (fun _ h9 => h9) dX12_holds_1 h (fun v1 h => ?_)
  refine k_iload_n o hb dX12_holds_4 rfl 1 rfl ?_
  refine k_iald o hb dX12_holds_5 h (fun v2 h => ?_)
  refine k_iconst (v := 1) o hb dX12_holds_6 (by decide) ?_
  refine k_icmp_ne (tgt := 36) o hb dX12_holds_7 (by decide) h (fun h => ?_) (fun h => ?_)
  · skip
    refine k_aload_n o hb dX12_holds_10 rfl 0 rfl ?_
    refine k_iload_n o hb dX12_holds_11 rfl 1 rfl ?_
    refine k_aload_n o hb dX12_holds_12 rfl 0 rfl ?_
    refine k_getF (C := RX12) (T := TX12) (N := 57) o hb hts in12 hown rfl (by decide) 7 (by decide) rfl (hts (.fieldLink RX12 30 "FactKeeperModel" "first" "[I") (by decide +kernel)) (fun _ h9 => h9) dX12_holds_13 h (fun v3 h => ?_)
    refine k_aload_n o hb dX12_holds_16 rfl 0 rfl ?_
    refine k_getF (C := RX12) (T := TX12) (N := 57) o hb hts in12 hown rfl (by decide) 45 (by decide) rfl (hts (.fieldLink RX12 106 "FactKeeperModel" "goalTable" "[I") (by decide +kernel)) (fun _ h9 => h9) dX12_holds_17 h (fun v4 h => ?_)
    refine k_iload_n o hb dX12_holds_20 rfl 1 rfl ?_
    refine k_iald o hb dX12_holds_21 h (fun v5 h => ?_)
    refine k_iald o hb dX12_holds_22 h (fun v6 h => ?_)
    refine k_iload_n o hb dX12_holds_23 rfl 2 rfl ?_
    refine k_run_i o (fun _ _ q => q) (k_runV (ci := 12) (rc := (RX12, TX12, 57)) o hb B.hml hown hts rfl (by decide) (T_X12_match g.l o.hl g.D g.cA h.2) (cwV 3 hts gX12_holds_X12_match rfl rfl rfl (by decide +kernel) ⟨yle B.hR1 rfl, yle B.hR2 rfl⟩) h.1 rfl rfl (Nat.le_of_ble_eq_true rfl) dX12_holds_24) (fun v8 x7 h => ?_)
    refine wJoin_elim (M := fun K => ∀ (v11 : Int32) (x10 : HS), K v11 x10 → KW g 6 35 [] [.i v11] x10) h ?_ (fun j9 hj9 h => ?_)
    · skip
      intro v11 x10 h
      exact k_zret o hb B.hr fr dX12_holds_35 h
    · skip
      refine k_if_ge (tgt := 34) o hb dX12_holds_27 (by decide) h (fun h => ?_) (fun h => ?_)
      · skip
        refine k_iconst (v := 0) o hb dX12_holds_34 (by decide) ?_
        exact KW.sub [] rfl (hj9 0 x7 h)
      · skip
        refine k_iconst (v := 1) o hb dX12_holds_30 (by decide) ?_
        refine k_goto (tgt := 35) o hb dX12_holds_31 (by decide) ?_
        exact KW.sub [] rfl (hj9 1 x7 h)
  · skip
    refine k_aload_n o hb dX12_holds_36 rfl 0 rfl ?_
    refine k_iconst (v := 5) o hb dX12_holds_37 (by decide) ?_
    refine k_iload_n o hb dX12_holds_38 rfl 1 rfl ?_
    refine k_imul o hb dX12_holds_39 ?_
    refine k_run_i o (fun _ _ q => q) (k_runV (ci := 12) (rc := (RX12, TX12, 57)) o hb B.hml hown hts rfl (by decide) (T_X12_worth g.l o.hl g.D g.cA h.2) (cwV 1 hts gX12_holds_X12_worth rfl rfl rfl (by decide +kernel) ⟨yle B.hR1 rfl, yle B.hR2 rfl⟩) h.1 rfl rfl (Nat.le_of_ble_eq_true rfl) dX12_holds_40) (fun v13 x12 h => ?_)
    refine k_istore_n o hb dX12_holds_43 rfl rfl ?_
    refine k_aload_n o hb dX12_holds_44 rfl 1 rfl ?_
    refine k_iconst (v := 5) o hb dX12_holds_45 (by decide) ?_
    refine k_iload_n o hb dX12_holds_46 rfl 2 rfl ?_
    refine k_imul o hb dX12_holds_47 ?_
    refine k_iconst (v := 1) o hb dX12_holds_48 (by decide) ?_
    refine k_iadd o hb dX12_holds_49 ?_
    refine k_run_i o (fun _ _ q => q) (k_runV (ci := 12) (rc := (RX12, TX12, 57)) o hb B.hml hown hts rfl (by decide) (T_X12_worth g.l o.hl g.D g.cA h.2) (cwV 1 hts gX12_holds_X12_worth rfl rfl rfl (by decide +kernel) ⟨yle B.hR1 rfl, yle B.hR2 rfl⟩) h.1 rfl rfl (Nat.le_of_ble_eq_true rfl) dX12_holds_50) (fun v15 x14 h => ?_)
    refine k_istore o hb dX12_holds_53 rfl ?_
    refine k_aload_n o hb dX12_holds_55 rfl 2 rfl ?_
    refine k_getF (C := RX12) (T := TX12) (N := 57) o hb hts in12 hown rfl (by decide) 44 (by decide) rfl (hts (.fieldLink RX12 103 "FactKeeperModel" "goal" "[I") (by decide +kernel)) (fun _ h9 => h9) dX12_holds_56 h (fun v16 h => ?_)
    refine k_iload_n o hb dX12_holds_59 rfl 3 rfl ?_
    refine k_iald o hb dX12_holds_60 h (fun v17 h => ?_)
    refine k_iconst (v := 2) o hb dX12_holds_61 (by decide) ?_
    refine k_icmp_ne (tgt := 77) o hb dX12_holds_62 (by decide) h (fun h => ?_) (fun h => ?_)
    · skip
      refine k_iload_n o hb dX12_holds_65 rfl 1 rfl ?_
      refine k_iload o hb dX12_holds_66 0 rfl ?_
      refine wJoin_elim (M := fun K => ∀ (v20 : Int32) (x19 : HS), K v20 x19 → KW g 6 76 [] [.i v20] x19) h ?_ (fun j18 hj18 h => ?_)
      · skip
        intro v20 x19 h
        exact k_zret o hb B.hr fr dX12_holds_76 h
      · skip
        refine k_icmp_ge (tgt := 75) o hb dX12_holds_68 (by decide) h (fun h => ?_) (fun h => ?_)
        · skip
          refine k_iconst (v := 0) o hb dX12_holds_75 (by decide) ?_
          exact KW.sub [] rfl (hj18 0 x14 h)
        · skip
          refine k_iconst (v := 1) o hb dX12_holds_71 (by decide) ?_
          refine k_goto (tgt := 76) o hb dX12_holds_72 (by decide) ?_
          exact KW.sub [] rfl (hj18 1 x14 h)
    · skip
      refine k_aload_n o hb dX12_holds_77 rfl 2 rfl ?_
      refine k_getF (C := RX12) (T := TX12) (N := 57) o hb hts in12 hown rfl (by decide) 44 (by decide) rfl (hts (.fieldLink RX12 103 "FactKeeperModel" "goal" "[I") (by decide +kernel)) (fun _ h9 => h9) dX12_holds_78 h (fun v21 h => ?_)
      refine k_iload_n o hb dX12_holds_81 rfl 3 rfl ?_
      refine k_iald o hb dX12_holds_82 h (fun v22 h => ?_)
      refine k_iconst (v := 3) o hb dX12_holds_83 (by decide) ?_
      refine k_icmp_ne (tgt := 99) o hb dX12_holds_84 (by decide) h (fun h => ?_) (fun h => ?_)
      · skip
        refine k_iload_n o hb dX12_holds_87 rfl 1 rfl ?_
        refine k_iload o hb dX12_holds_88 0 rfl ?_
        refine wJoin_elim (M := fun K => ∀ (v25 : Int32) (x24 : HS), K v25 x24 → KW g 6 98 [] [.i v25] x24) h ?_ (fun j23 hj23 h => ?_)
        · skip
          intro v25 x24 h
          exact k_zret o hb B.hr fr dX12_holds_98 h
        · skip
          refine k_icmp_ne (tgt := 97) o hb dX12_holds_90 (by decide) h (fun h => ?_) (fun h => ?_)
          · skip
            refine k_iconst (v := 1) o hb dX12_holds_93 (by decide) ?_
            refine k_goto (tgt := 98) o hb dX12_holds_94 (by decide) ?_
            exact KW.sub [] rfl (hj23 1 x14 h)
          · skip
            refine k_iconst (v := 0) o hb dX12_holds_97 (by decide) ?_
            exact KW.sub [] rfl (hj23 0 x14 h)
      · skip
        refine k_aload_n o hb dX12_holds_99 rfl 2 rfl ?_
        refine k_getF (C := RX12) (T := TX12) (N := 57) o hb hts in12 hown rfl (by decide) 44 (by decide) rfl (hts (.fieldLink RX12 103 "FactKeeperModel" "goal" "[I") (by decide +kernel)) (fun _ h9 => h9) dX12_holds_100 h (fun v26 h => ?_)
        refine k_iload_n o hb dX12_holds_103 rfl 3 rfl ?_
        refine k_iald o hb dX12_holds_104 h (fun v27 h => ?_)
        refine k_iconst (v := 4) o hb dX12_holds_105 (by decide) ?_
        refine k_icmp_ne (tgt := 121) o hb dX12_holds_106 (by decide) h (fun h => ?_) (fun h => ?_)
        · skip
          refine k_iload_n o hb dX12_holds_109 rfl 1 rfl ?_
          refine k_iload o hb dX12_holds_110 0 rfl ?_
          refine wJoin_elim (M := fun K => ∀ (v30 : Int32) (x29 : HS), K v30 x29 → KW g 6 120 [] [.i v30] x29) h ?_ (fun j28 hj28 h => ?_)
          · skip
            intro v30 x29 h
            exact k_zret o hb B.hr fr dX12_holds_120 h
          · skip
            refine k_icmp_eq (tgt := 119) o hb dX12_holds_112 (by decide) h (fun h => ?_) (fun h => ?_)
            · skip
              refine k_iconst (v := 0) o hb dX12_holds_119 (by decide) ?_
              exact KW.sub [] rfl (hj28 0 x14 h)
            · skip
              refine k_iconst (v := 1) o hb dX12_holds_115 (by decide) ?_
              refine k_goto (tgt := 120) o hb dX12_holds_116 (by decide) ?_
              exact KW.sub [] rfl (hj28 1 x14 h)
        · skip
          refine k_aload_n o hb dX12_holds_121 rfl 2 rfl ?_
          refine k_iconst (v := 5) o hb dX12_holds_122 (by decide) ?_
          refine k_iload_n o hb dX12_holds_123 rfl 3 rfl ?_
          refine k_imul o hb dX12_holds_124 ?_
          refine k_iconst (v := 2) o hb dX12_holds_125 (by decide) ?_
          refine k_iadd o hb dX12_holds_126 ?_
          refine k_run_i o (fun _ _ q => q) (k_runV (ci := 12) (rc := (RX12, TX12, 57)) o hb B.hml hown hts rfl (by decide) (T_X12_worth g.l o.hl g.D g.cA h.2) (cwV 1 hts gX12_holds_X12_worth rfl rfl rfl (by decide +kernel) ⟨yle B.hR1 rfl, yle B.hR2 rfl⟩) h.1 rfl rfl (Nat.le_of_ble_eq_true rfl) dX12_holds_127) (fun v32 x31 h => ?_)
          refine k_istore o hb dX12_holds_130 rfl ?_
          refine k_aload_n o hb dX12_holds_132 rfl 3 rfl ?_
          refine k_getF (C := RX12) (T := TX12) (N := 57) o hb hts in12 hown rfl (by decide) 50 (by decide) rfl (hts (.fieldLink RX12 118 "FactKeeperModel" "variable" "[I") (by decide +kernel)) (fun _ h9 => h9) dX12_holds_133 h (fun v33 h => ?_)
          refine k_aload_n o hb dX12_holds_136 rfl 3 rfl ?_
          refine k_getF (C := RX12) (T := TX12) (N := 57) o hb hts in12 hown rfl (by decide) 47 (by decide) rfl (hts (.fieldLink RX12 112 "FactKeeperModel" "argument" "[I") (by decide +kernel)) (fun _ h9 => h9) dX12_holds_137 h (fun v34 h => ?_)
          refine k_iconst (v := 5) o hb dX12_holds_140 (by decide) ?_
          refine k_iload_n o hb dX12_holds_141 rfl 4 rfl ?_
          refine k_imul o hb dX12_holds_142 ?_
          refine k_iald o hb dX12_holds_143 h (fun v35 h => ?_)
          refine k_aload_n o hb dX12_holds_144 rfl 3 rfl ?_
          refine k_getF (C := RX12) (T := TX12) (N := 57) o hb hts in12 hown rfl (by decide) 44 (by decide) rfl (hts (.fieldLink RX12 103 "FactKeeperModel" "goal" "[I") (by decide +kernel)) (fun _ h9 => h9) dX12_holds_145 h (fun v36 h => ?_)
          refine k_iload_n o hb dX12_holds_148 rfl 4 rfl ?_
          refine k_iald o hb dX12_holds_149 h (fun v37 h => ?_)
          refine k_iconst (v := 5) o hb dX12_holds_150 (by decide) ?_
          refine wJoin_elim (M := fun K => ∀ (v40 : Int32) (x39 : HS), K v40 x39 → KW g 6 186 [] [.i v40, .i v35, .q v33] x39) h ?_ (fun j38 hj38 h => ?_)
          · skip
            intro v40 x39 h
            refine k_iast o hb dX12_holds_186 h (fun x41 h => ?_)
            refine k_iconst (v := 1) o hb dX12_holds_187 (by decide) ?_
            exact k_zret o hb B.hr fr dX12_holds_188 h
          · skip
            refine k_icmp_ne (tgt := 162) o hb dX12_holds_151 (by decide) h (fun h => ?_) (fun h => ?_)
            · skip
              refine k_iload o hb dX12_holds_154 1 rfl ?_
              refine k_iload o hb dX12_holds_156 0 rfl ?_
              refine k_iadd o hb dX12_holds_158 ?_
              refine k_goto (tgt := 186) o hb dX12_holds_159 (by decide) ?_
              exact KW.sub [] rfl (hj38 (v15 + v32) x31 h)
            · skip
              refine k_aload_n o hb dX12_holds_162 rfl 3 rfl ?_
              refine k_getF (C := RX12) (T := TX12) (N := 57) o hb hts in12 hown rfl (by decide) 44 (by decide) rfl (hts (.fieldLink RX12 103 "FactKeeperModel" "goal" "[I") (by decide +kernel)) (fun _ h9 => h9) dX12_holds_163 h (fun v42 h => ?_)
              refine k_iload_n o hb dX12_holds_166 rfl 4 rfl ?_
              refine k_iald o hb dX12_holds_167 h (fun v43 h => ?_)
              refine k_bipush (v := 6) o hb dX12_holds_168 (by decide) ?_
              refine k_icmp_ne (tgt := 181) o hb dX12_holds_170 (by decide) h (fun h => ?_) (fun h => ?_)
              · skip
                refine k_iload o hb dX12_holds_173 1 rfl ?_
                refine k_iload o hb dX12_holds_175 0 rfl ?_
                refine k_isub o hb dX12_holds_177 ?_
                refine k_goto (tgt := 186) o hb dX12_holds_178 (by decide) ?_
                exact KW.sub [] rfl (hj38 (v15 - v32) x31 h)
              · skip
                refine k_iload o hb dX12_holds_181 1 rfl ?_
                refine k_iload o hb dX12_holds_183 0 rfl ?_
                refine k_imul o hb dX12_holds_185 ?_
                exact KW.sub [] rfl (hj38 (v15 * v32) x31 h)
theorem dX12_solve_0 : decode cX12_solve 0 = .ok (.iconst 0, 1) := by decide +kernel
theorem dX12_solve_1 : decode cX12_solve 1 = .ok (.istore_n 2, 1) := by decide +kernel
theorem dX12_solve_2 : decode cX12_solve 2 = .ok (.iconst 0, 1) := by decide +kernel
theorem dX12_solve_3 : decode cX12_solve 3 = .ok (.istore_n 3, 1) := by decide +kernel
theorem dX12_solve_4 : decode cX12_solve 4 = .ok (.iconst 0, 1) := by decide +kernel
theorem dX12_solve_5 : decode cX12_solve 5 = .ok (.istore 4, 2) := by decide +kernel
theorem dX12_solve_7 : decode cX12_solve 7 = .ok (.iload_n 3, 1) := by decide +kernel
theorem dX12_solve_8 : decode cX12_solve 8 = .ok (.ifCond .lt 205, 3) := by decide +kernel
theorem dX12_solve_11 : decode cX12_solve 11 = .ok (.aload_n 0, 1) := by decide +kernel
theorem dX12_solve_12 : decode cX12_solve 12 = .ok (.getfield 168, 3) := by decide +kernel
theorem dX12_solve_15 : decode cX12_solve 15 = .ok (.ldc 175, 2) := by decide +kernel
theorem dX12_solve_17 : decode cX12_solve 17 = .ok (.if_icmp .gt 196, 3) := by decide +kernel
theorem dX12_solve_20 : decode cX12_solve 20 = .ok (.iload_n 3, 1) := by decide +kernel
theorem dX12_solve_21 : decode cX12_solve 21 = .ok (.aload_n 0, 1) := by decide +kernel
theorem dX12_solve_22 : decode cX12_solve 22 = .ok (.getfield 281, 3) := by decide +kernel
theorem dX12_solve_25 : decode cX12_solve 25 = .ok (.if_icmp .ne 56, 3) := by decide +kernel
theorem dX12_solve_28 : decode cX12_solve 28 = .ok (.iconst 0, 1) := by decide +kernel
theorem dX12_solve_29 : decode cX12_solve 29 = .ok (.istore 5, 2) := by decide +kernel
theorem dX12_solve_31 : decode cX12_solve 31 = .ok (.iload 5, 2) := by decide +kernel
theorem dX12_solve_33 : decode cX12_solve 33 = .ok (.bipush 8, 2) := by decide +kernel
theorem dX12_solve_35 : decode cX12_solve 35 = .ok (.if_icmp .ge 34, 3) := by decide +kernel
theorem dX12_solve_38 : decode cX12_solve 38 = .ok (.iload_n 2, 1) := by decide +kernel
theorem dX12_solve_39 : decode cX12_solve 39 = .ok (.bipush 100, 2) := by decide +kernel
theorem dX12_solve_41 : decode cX12_solve 41 = .ok (.if_icmp .ge 28, 3) := by decide +kernel
theorem dX12_solve_44 : decode cX12_solve 44 = .ok (.aload_n 0, 1) := by decide +kernel
theorem dX12_solve_45 : decode cX12_solve 45 = .ok (.getfield 130, 3) := by decide +kernel
theorem dX12_solve_48 : decode cX12_solve 48 = .ok (.bipush 8, 2) := by decide +kernel
theorem dX12_solve_50 : decode cX12_solve 50 = .ok (.iload_n 2, 1) := by decide +kernel
theorem dX12_solve_51 : decode cX12_solve 51 = .ok (.imul, 1) := by decide +kernel
theorem dX12_solve_52 : decode cX12_solve 52 = .ok (.iload 5, 2) := by decide +kernel
theorem dX12_solve_54 : decode cX12_solve 54 = .ok (.iadd, 1) := by decide +kernel
theorem dX12_solve_55 : decode cX12_solve 55 = .ok (.aload_n 0, 1) := by decide +kernel
theorem dX12_solve_56 : decode cX12_solve 56 = .ok (.getfield 118, 3) := by decide +kernel
theorem dX12_solve_59 : decode cX12_solve 59 = .ok (.iload 5, 2) := by decide +kernel
theorem dX12_solve_61 : decode cX12_solve 61 = .ok (.iaload, 1) := by decide +kernel
theorem dX12_solve_62 : decode cX12_solve 62 = .ok (.iastore, 1) := by decide +kernel
theorem dX12_solve_63 : decode cX12_solve 63 = .ok (.iinc 5 1, 3) := by decide +kernel
theorem dX12_solve_66 : decode cX12_solve 66 = .ok (.goto (-35), 3) := by decide +kernel
theorem dX12_solve_69 : decode cX12_solve 69 = .ok (.iinc 2 1, 3) := by decide +kernel
theorem dX12_solve_72 : decode cX12_solve 72 = .ok (.iconst 1, 1) := by decide +kernel
theorem dX12_solve_73 : decode cX12_solve 73 = .ok (.istore 4, 2) := by decide +kernel
theorem dX12_solve_75 : decode cX12_solve 75 = .ok (.iinc 3 (-1), 3) := by decide +kernel
theorem dX12_solve_78 : decode cX12_solve 78 = .ok (.goto (-71), 3) := by decide +kernel
theorem dX12_solve_81 : decode cX12_solve 81 = .ok (.aload_n 0, 1) := by decide +kernel
theorem dX12_solve_82 : decode cX12_solve 82 = .ok (.getfield 103, 3) := by decide +kernel
theorem dX12_solve_85 : decode cX12_solve 85 = .ok (.iload_n 3, 1) := by decide +kernel
theorem dX12_solve_86 : decode cX12_solve 86 = .ok (.iaload, 1) := by decide +kernel
theorem dX12_solve_87 : decode cX12_solve 87 = .ok (.ifCond .eq 40, 3) := by decide +kernel
theorem dX12_solve_90 : decode cX12_solve 90 = .ok (.iload 4, 2) := by decide +kernel
theorem dX12_solve_92 : decode cX12_solve 92 = .ok (.ifCond .ne 12, 3) := by decide +kernel
theorem dX12_solve_95 : decode cX12_solve 95 = .ok (.aload_n 0, 1) := by decide +kernel
theorem dX12_solve_96 : decode cX12_solve 96 = .ok (.iload_n 3, 1) := by decide +kernel
theorem dX12_solve_97 : decode cX12_solve 97 = .ok (.iload_n 1, 1) := by decide +kernel
theorem dX12_solve_98 : decode cX12_solve 98 = .ok (.invokevirtual 300, 3) := by decide +kernel
theorem dX12_solve_101 : decode cX12_solve 101 = .ok (.ifCond .ne 7, 3) := by decide +kernel
theorem dX12_solve_104 : decode cX12_solve 104 = .ok (.iconst 1, 1) := by decide +kernel
theorem dX12_solve_105 : decode cX12_solve 105 = .ok (.goto 4, 3) := by decide +kernel
theorem dX12_solve_108 : decode cX12_solve 108 = .ok (.iconst 0, 1) := by decide +kernel
theorem dX12_solve_109 : decode cX12_solve 109 = .ok (.istore 4, 2) := by decide +kernel
theorem dX12_solve_111 : decode cX12_solve 111 = .ok (.iload_n 3, 1) := by decide +kernel
theorem dX12_solve_112 : decode cX12_solve 112 = .ok (.iload 4, 2) := by decide +kernel
theorem dX12_solve_114 : decode cX12_solve 114 = .ok (.ifCond .eq 7, 3) := by decide +kernel
theorem dX12_solve_117 : decode cX12_solve 117 = .ok (.iconst (-1), 1) := by decide +kernel
theorem dX12_solve_118 : decode cX12_solve 118 = .ok (.goto 4, 3) := by decide +kernel
theorem dX12_solve_121 : decode cX12_solve 121 = .ok (.iconst 1, 1) := by decide +kernel
theorem dX12_solve_122 : decode cX12_solve 122 = .ok (.iadd, 1) := by decide +kernel
theorem dX12_solve_123 : decode cX12_solve 123 = .ok (.istore_n 3, 1) := by decide +kernel
theorem dX12_solve_124 : decode cX12_solve 124 = .ok (.goto (-117), 3) := by decide +kernel
theorem dX12_solve_127 : decode cX12_solve 127 = .ok (.iload 4, 2) := by decide +kernel
theorem dX12_solve_129 : decode cX12_solve 129 = .ok (.ifCond .eq 17, 3) := by decide +kernel
theorem dX12_solve_132 : decode cX12_solve 132 = .ok (.aload_n 0, 1) := by decide +kernel
theorem dX12_solve_133 : decode cX12_solve 133 = .ok (.getfield 61, 3) := by decide +kernel
theorem dX12_solve_136 : decode cX12_solve 136 = .ok (.aload_n 0, 1) := by decide +kernel
theorem dX12_solve_137 : decode cX12_solve 137 = .ok (.getfield 121, 3) := by decide +kernel
theorem dX12_solve_140 : decode cX12_solve 140 = .ok (.iload_n 3, 1) := by decide +kernel
theorem dX12_solve_141 : decode cX12_solve 141 = .ok (.iaload, 1) := by decide +kernel
theorem dX12_solve_142 : decode cX12_solve 142 = .ok (.iaload, 1) := by decide +kernel
theorem dX12_solve_143 : decode cX12_solve 143 = .ok (.goto 14, 3) := by decide +kernel
theorem dX12_solve_146 : decode cX12_solve 146 = .ok (.aload_n 0, 1) := by decide +kernel
theorem dX12_solve_147 : decode cX12_solve 147 = .ok (.getfield 30, 3) := by decide +kernel
theorem dX12_solve_150 : decode cX12_solve 150 = .ok (.aload_n 0, 1) := by decide +kernel
theorem dX12_solve_151 : decode cX12_solve 151 = .ok (.getfield 106, 3) := by decide +kernel
theorem dX12_solve_154 : decode cX12_solve 154 = .ok (.iload_n 3, 1) := by decide +kernel
theorem dX12_solve_155 : decode cX12_solve 155 = .ok (.iaload, 1) := by decide +kernel
theorem dX12_solve_156 : decode cX12_solve 156 = .ok (.iaload, 1) := by decide +kernel
theorem dX12_solve_157 : decode cX12_solve 157 = .ok (.istore 5, 2) := by decide +kernel
theorem dX12_solve_159 : decode cX12_solve 159 = .ok (.aload_n 0, 1) := by decide +kernel
theorem dX12_solve_160 : decode cX12_solve 160 = .ok (.iload_n 3, 1) := by decide +kernel
theorem dX12_solve_161 : decode cX12_solve 161 = .ok (.iload 5, 2) := by decide +kernel
theorem dX12_solve_163 : decode cX12_solve 163 = .ok (.iload_n 1, 1) := by decide +kernel
theorem dX12_solve_164 : decode cX12_solve 164 = .ok (.invokevirtual 296, 3) := by decide +kernel
theorem dX12_solve_167 : decode cX12_solve 167 = .ok (.istore 6, 2) := by decide +kernel
theorem dX12_solve_169 : decode cX12_solve 169 = .ok (.iload 6, 2) := by decide +kernel
theorem dX12_solve_171 : decode cX12_solve 171 = .ok (.ifCond .ge 7, 3) := by decide +kernel
theorem dX12_solve_174 : decode cX12_solve 174 = .ok (.iconst 1, 1) := by decide +kernel
theorem dX12_solve_175 : decode cX12_solve 175 = .ok (.goto 4, 3) := by decide +kernel
theorem dX12_solve_178 : decode cX12_solve 178 = .ok (.iconst 0, 1) := by decide +kernel
theorem dX12_solve_179 : decode cX12_solve 179 = .ok (.istore 4, 2) := by decide +kernel
theorem dX12_solve_181 : decode cX12_solve 181 = .ok (.iload 4, 2) := by decide +kernel
theorem dX12_solve_183 : decode cX12_solve 183 = .ok (.ifCond .eq 9, 3) := by decide +kernel
theorem dX12_solve_186 : decode cX12_solve 186 = .ok (.iinc 3 (-1), 3) := by decide +kernel
theorem dX12_solve_189 : decode cX12_solve 189 = .ok (.goto 21, 3) := by decide +kernel
theorem dX12_solve_192 : decode cX12_solve 192 = .ok (.aload_n 0, 1) := by decide +kernel
theorem dX12_solve_193 : decode cX12_solve 193 = .ok (.getfield 121, 3) := by decide +kernel
theorem dX12_solve_196 : decode cX12_solve 196 = .ok (.iload_n 3, 1) := by decide +kernel
theorem dX12_solve_197 : decode cX12_solve 197 = .ok (.iload 6, 2) := by decide +kernel
theorem dX12_solve_199 : decode cX12_solve 199 = .ok (.iastore, 1) := by decide +kernel
theorem dX12_solve_200 : decode cX12_solve 200 = .ok (.aload_n 0, 1) := by decide +kernel
theorem dX12_solve_201 : decode cX12_solve 201 = .ok (.iload_n 3, 1) := by decide +kernel
theorem dX12_solve_202 : decode cX12_solve 202 = .ok (.iload 6, 2) := by decide +kernel
theorem dX12_solve_204 : decode cX12_solve 204 = .ok (.invokevirtual 303, 3) := by decide +kernel
theorem dX12_solve_207 : decode cX12_solve 207 = .ok (.iinc 3 1, 3) := by decide +kernel
theorem dX12_solve_210 : decode cX12_solve 210 = .ok (.goto (-203), 3) := by decide +kernel
theorem dX12_solve_213 : decode cX12_solve 213 = .ok (.iload_n 2, 1) := by decide +kernel
theorem dX12_solve_214 : decode cX12_solve 214 = .ok (.ireturn, 1) := by decide +kernel
theorem i9wsX12_solve_0 : ∀ w ∈ wsX12_solve_r1, w ∈ wsX12_solve := fun _ h => (List.mem_cons_of_mem _ (List.mem_append_left _ (List.mem_append_left _ h)))
theorem i9wsX12_solve_1 : ∀ w ∈ wsX12_solve_r2, w ∈ wsX12_solve := fun _ h => (List.mem_cons_of_mem _ (List.mem_append_left _ (List.mem_append_right _ (List.mem_append_left _ h))))
theorem i9wsX12_solve_2 : ∀ w ∈ wsX12_solve_r3, w ∈ wsX12_solve := fun _ h => (List.mem_cons_of_mem _ (List.mem_append_left _ (List.mem_append_right _ (List.mem_append_right _ h))))
theorem i9wsX12_solve_3 : ∀ w ∈ wsX120, w ∈ wsX12_solve := fun _ h => (List.mem_cons_of_mem _ (List.mem_append_right _ h))
set_option maxRecDepth 20000 in
theorem ggX12_solve_X12_holds : GoodIn wsX12_solve wsX12_holds := (gin_c (mem_at i9wsX12_solve_0 14 rfl) rfl (goodIn_app (goodIn_app (gin_c (mem_at i9wsX12_solve_0 5 rfl) rfl (gin_c (mem_at i9wsX12_solve_0 8 rfl) rfl (gin_c (mem_at i9wsX12_solve_0 9 rfl) rfl (gin_c (mem_at i9wsX12_solve_0 4 rfl) rfl (gin_c (mem_at i9wsX12_solve_0 15 rfl) rfl (gin_c (mem_at i9wsX12_solve_0 16 rfl) rfl (gin_c (mem_at i9wsX12_solve_0 17 rfl) rfl (gin_c (mem_at i9wsX12_solve_0 18 rfl) rfl (gin_c (mem_at i9wsX12_solve_0 13 rfl) rfl (gin_c (mem_at i9wsX12_solve_0 19 rfl) rfl (gin_c (mem_at i9wsX12_solve_0 20 rfl) rfl (gin_c (mem_at i9wsX12_solve_0 21 rfl) rfl (gin_c (mem_at i9wsX12_solve_0 22 rfl) rfl (gin_c (mem_at i9wsX12_solve_0 0 rfl) rfl (gin_c (mem_at i9wsX12_solve_0 1 rfl) rfl (gin_c (mem_at i9wsX12_solve_0 6 rfl) rfl (gin_c (mem_at i9wsX12_solve_0 23 rfl) rfl (gin_c (mem_at i9wsX12_solve_1 0 rfl) rfl (gin_c (mem_at i9wsX12_solve_1 1 rfl) rfl (gin_c (mem_at i9wsX12_solve_1 2 rfl) rfl (gin_c (mem_at i9wsX12_solve_1 3 rfl) rfl (gin_c (mem_at i9wsX12_solve_1 4 rfl) rfl (gin_c (mem_at i9wsX12_solve_1 5 rfl) rfl (gin_c (mem_at i9wsX12_solve_1 6 rfl) rfl gin_n)))))))))))))))))))))))) (goodIn_app (gin_c (mem_at i9wsX12_solve_1 7 rfl) rfl (gin_c (mem_at i9wsX12_solve_1 8 rfl) rfl (gin_c (mem_at i9wsX12_solve_1 9 rfl) rfl (gin_c (mem_at i9wsX12_solve_1 10 rfl) rfl (gin_c (mem_at i9wsX12_solve_1 11 rfl) rfl (gin_c (mem_at i9wsX12_solve_1 12 rfl) rfl (gin_c (mem_at i9wsX12_solve_1 13 rfl) rfl (gin_c (mem_at i9wsX12_solve_1 14 rfl) rfl (gin_c (mem_at i9wsX12_solve_1 15 rfl) rfl (gin_c (mem_at i9wsX12_solve_1 16 rfl) rfl (gin_c (mem_at i9wsX12_solve_1 17 rfl) rfl (gin_c (mem_at i9wsX12_solve_1 18 rfl) rfl (gin_c (mem_at i9wsX12_solve_1 19 rfl) rfl (gin_c (mem_at i9wsX12_solve_1 20 rfl) rfl (gin_c (mem_at i9wsX12_solve_1 21 rfl) rfl (gin_c (mem_at i9wsX12_solve_1 22 rfl) rfl (gin_c (mem_at i9wsX12_solve_1 23 rfl) rfl (gin_c (mem_at i9wsX12_solve_2 0 rfl) rfl (gin_c (mem_at i9wsX12_solve_2 1 rfl) rfl (gin_c (mem_at i9wsX12_solve_2 2 rfl) rfl (gin_c (mem_at i9wsX12_solve_2 3 rfl) rfl (gin_c (mem_at i9wsX12_solve_2 4 rfl) rfl (gin_c (mem_at i9wsX12_solve_2 5 rfl) rfl (gin_c (mem_at i9wsX12_solve_2 6 rfl) rfl gin_n)))))))))))))))))))))))) (gin_c (mem_at i9wsX12_solve_2 7 rfl) rfl (gin_c (mem_at i9wsX12_solve_2 8 rfl) rfl (gin_c (mem_at i9wsX12_solve_2 9 rfl) rfl gin_n))))) (goodIn_sub i9wsX12_solve_3 g9_16)))
set_option maxRecDepth 20000 in
theorem gX12_solve_X12_holds : GoodIn wsX12_solve (wsV RX12 300 RX12 yX12_holds wsX12_holds) := goodIn_app (gin_c (mem_at i9wsX12_solve_0 10 rfl) rfl (gin_c (mem_at i9wsX12_solve_0 11 rfl) rfl (gin_c (mem_at i9wsX12_solve_0 12 rfl) rfl (gin_c (mem_at i9wsX12_solve_0 13 rfl) rfl gin_n)))) ggX12_solve_X12_holds
set_option maxRecDepth 20000 in
theorem ggX12_solve_X12_match : GoodIn wsX12_solve wsX12_match := (gin_c (mem_at i9wsX12_solve_0 19 rfl) rfl (goodIn_app (goodIn_app (gin_c (mem_at i9wsX12_solve_0 9 rfl) rfl (gin_c (mem_at i9wsX12_solve_0 20 rfl) rfl (gin_c (mem_at i9wsX12_solve_0 21 rfl) rfl (gin_c (mem_at i9wsX12_solve_0 22 rfl) rfl (gin_c (mem_at i9wsX12_solve_0 0 rfl) rfl (gin_c (mem_at i9wsX12_solve_0 1 rfl) rfl (gin_c (mem_at i9wsX12_solve_0 6 rfl) rfl (gin_c (mem_at i9wsX12_solve_0 23 rfl) rfl (gin_c (mem_at i9wsX12_solve_1 0 rfl) rfl (gin_c (mem_at i9wsX12_solve_1 1 rfl) rfl (gin_c (mem_at i9wsX12_solve_0 13 rfl) rfl (gin_c (mem_at i9wsX12_solve_1 2 rfl) rfl (gin_c (mem_at i9wsX12_solve_1 3 rfl) rfl (gin_c (mem_at i9wsX12_solve_0 15 rfl) rfl (gin_c (mem_at i9wsX12_solve_1 4 rfl) rfl (gin_c (mem_at i9wsX12_solve_1 5 rfl) rfl (gin_c (mem_at i9wsX12_solve_1 6 rfl) rfl (gin_c (mem_at i9wsX12_solve_1 7 rfl) rfl (gin_c (mem_at i9wsX12_solve_0 4 rfl) rfl (gin_c (mem_at i9wsX12_solve_1 8 rfl) rfl (gin_c (mem_at i9wsX12_solve_1 9 rfl) rfl (gin_c (mem_at i9wsX12_solve_1 10 rfl) rfl (gin_c (mem_at i9wsX12_solve_1 11 rfl) rfl (gin_c (mem_at i9wsX12_solve_1 12 rfl) rfl gin_n)))))))))))))))))))))))) (gin_c (mem_at i9wsX12_solve_1 13 rfl) rfl (gin_c (mem_at i9wsX12_solve_1 14 rfl) rfl (gin_c (mem_at i9wsX12_solve_1 15 rfl) rfl (gin_c (mem_at i9wsX12_solve_1 16 rfl) rfl (gin_c (mem_at i9wsX12_solve_1 17 rfl) rfl (gin_c (mem_at i9wsX12_solve_1 18 rfl) rfl (gin_c (mem_at i9wsX12_solve_1 19 rfl) rfl (gin_c (mem_at i9wsX12_solve_1 20 rfl) rfl (gin_c (mem_at i9wsX12_solve_1 21 rfl) rfl (gin_c (mem_at i9wsX12_solve_1 22 rfl) rfl (gin_c (mem_at i9wsX12_solve_1 23 rfl) rfl (gin_c (mem_at i9wsX12_solve_2 0 rfl) rfl (gin_c (mem_at i9wsX12_solve_2 1 rfl) rfl (gin_c (mem_at i9wsX12_solve_2 2 rfl) rfl (gin_c (mem_at i9wsX12_solve_2 3 rfl) rfl (gin_c (mem_at i9wsX12_solve_2 4 rfl) rfl (gin_c (mem_at i9wsX12_solve_2 5 rfl) rfl (gin_c (mem_at i9wsX12_solve_2 6 rfl) rfl (gin_c (mem_at i9wsX12_solve_2 7 rfl) rfl (gin_c (mem_at i9wsX12_solve_2 8 rfl) rfl (gin_c (mem_at i9wsX12_solve_2 9 rfl) rfl gin_n)))))))))))))))))))))) (goodIn_sub i9wsX12_solve_3 g9_16)))
set_option maxRecDepth 20000 in
theorem gX12_solve_X12_match : GoodIn wsX12_solve (wsV RX12 296 RX12 yX12_match wsX12_match) := goodIn_app (gin_c (mem_at i9wsX12_solve_0 16 rfl) rfl (gin_c (mem_at i9wsX12_solve_0 17 rfl) rfl (gin_c (mem_at i9wsX12_solve_0 18 rfl) rfl (gin_c (mem_at i9wsX12_solve_0 13 rfl) rfl gin_n)))) ggX12_solve_X12_match
set_option maxRecDepth 20000 in
theorem ggX12_solve_X12_give : GoodIn wsX12_solve wsX12_give := (gin_c (mem_at i9wsX12_solve_2 13 rfl) rfl (goodIn_app (gin_c (mem_at i9wsX12_solve_0 20 rfl) rfl (gin_c (mem_at i9wsX12_solve_0 9 rfl) rfl (gin_c (mem_at i9wsX12_solve_0 21 rfl) rfl (gin_c (mem_at i9wsX12_solve_0 4 rfl) rfl (gin_c (mem_at i9wsX12_solve_0 15 rfl) rfl (gin_c (mem_at i9wsX12_solve_1 12 rfl) rfl gin_n)))))) (goodIn_sub i9wsX12_solve_3 g9_16)))
set_option maxRecDepth 20000 in
theorem gX12_solve_X12_give : GoodIn wsX12_solve (wsV RX12 303 RX12 yX12_give wsX12_give) := goodIn_app (gin_c (mem_at i9wsX12_solve_2 10 rfl) rfl (gin_c (mem_at i9wsX12_solve_2 11 rfl) rfl (gin_c (mem_at i9wsX12_solve_2 12 rfl) rfl (gin_c (mem_at i9wsX12_solve_0 13 rfl) rfl gin_n)))) ggX12_solve_X12_give
set_option maxHeartbeats 4000000 in
set_option maxRecDepth 100000 in
theorem T_X12_solve (l : Launch) (hl : l.stackTraces = false) (D : va_G) (cA : Nat → ClassId) {l0 : Option Nat} {l1 : Int32} {x : HS} {Q : Int32 → HS → Prop} {X : String → HS → Prop} (h : w_X12_solve l0 l1 x Q X) : YI l yX12_solve wsX12_solve 4 105 D cA [.q l0, .i l1] x Q X := by
  refine YI.of (cc := cX12_solve) (maxL := 7) (ret := (some .int)) hl (by decide) rfl rfl (fun g B fr => ?_)
  have o := B.o
  have hb := B.hb
  have hts := B.hts
  have hown : g.s.vm.findClass RX12 = some g.m.cls := B.hown
  have in12 : ∀ w ∈ u_ws RX12 TX12 57, w ∈ wsX12_solve := fun w h => (List.mem_cons_of_mem _ (List.mem_append_right _ h))
  unfold w_X12_solve at h
  show KW g 7 0 [(0, .q l0), (1, .i l1)] [] x
  refine k_iconst (v := 0) o hb dX12_solve_0 (by decide) ?_
  refine k_istore_n o hb dX12_solve_1 rfl rfl ?_
  refine k_iconst (v := 0) o hb dX12_solve_2 (by decide) ?_
  refine k_istore_n o hb dX12_solve_3 rfl rfl ?_
  refine k_iconst (v := 0) o hb dX12_solve_4 (by decide) ?_
  refine k_istore o hb dX12_solve_5 rfl ?_
  refine KW.sub [3, 4, 2, 1, 0] rfl ?_
  refine wLoop_elim (M := fun (v4 : Int32 × Int32 × Int32) (x3 : HS) => KW g 7 7 [(0, .q l0), (1, .i l1), (2, .i v4.1), (3, .i v4.2.1), (4, .i v4.2.2)] [] x3) h ?_
  intro v4 x3 again1 ih2 h
  refine k_iload_n o hb dX12_solve_7 rfl 3 rfl ?_
  refine wJoin_elim (M := fun K => ∀  (x6 : HS), K  x6 → KW g 7 213 [(2, .i v4.1)] [] x6) h ?_ (fun j5 hj5 h => ?_)
  · skip
    intro  x6 h
    refine k_iload_n o hb dX12_solve_213 rfl 0 rfl ?_
    exact k_iret o hb B.hr fr dX12_solve_214 h
  · skip
    refine k_if_lt (tgt := 213) o hb dX12_solve_8 (by decide) h (fun h => ?_) (fun h => ?_)
    · skip
      exact KW.sub [2] rfl (hj5 x3 h)
    · skip
      refine k_aload_n o hb dX12_solve_11 rfl 0 rfl ?_
      refine k_getI (C := RX12) (T := TX12) (N := 57) o hb hts in12 hown rfl (by decide) 38 (by decide) rfl (hts (.fieldLink RX12 168 "FactKeeperModel" "looked" "I") (by decide +kernel)) (fun _ h9 => h9) dX12_solve_12 h (fun v7 h => ?_)
      refine k_ldc (v := 50000) o hb hown (hts (.constant RX12 175 50000) (by decide +kernel)) dX12_solve_15 ?_
      refine k_icmp_gt (tgt := 213) o hb dX12_solve_17 (by decide) h (fun h => ?_) (fun h => ?_)
      · skip
        exact KW.sub [2] rfl (hj5 x3 h)
      · skip
        refine k_iload_n o hb dX12_solve_20 rfl 3 rfl ?_
        refine k_aload_n o hb dX12_solve_21 rfl 0 rfl ?_
        refine k_getI (C := RX12) (T := TX12) (N := 57) o hb hts in12 hown rfl (by decide) 49 (by decide) rfl (hts (.fieldLink RX12 281 "FactKeeperModel" "goals" "I") (by decide +kernel)) (fun _ h9 => h9) dX12_solve_22 h (fun v8 h => ?_)
        refine k_icmp_ne (tgt := 81) o hb dX12_solve_25 (by decide) h (fun h => ?_) (fun h => ?_)
        · skip
          refine k_iconst (v := 0) o hb dX12_solve_28 (by decide) ?_
          refine k_istore o hb dX12_solve_29 rfl ?_
          refine KW.sub [1, 2, 3, 4, 0] rfl ?_
          refine wLoop_elim (M := fun (v12 : Int32 × Int32 × Int32) (x11 : HS) => KW g 7 31 [(0, .q l0), (1, .i l1), (2, .i v12.1), (3, .i v12.2.1), (5, .i v12.2.2)] [] x11) h ?_
          intro v12 x11 again9 ih10 h
          refine k_iload o hb dX12_solve_31 4 rfl ?_
          refine k_bipush (v := 8) o hb dX12_solve_33 (by decide) ?_
          refine wJoin_elim (M := fun K => ∀  (x14 : HS), K  x14 → KW g 7 69 [(0, .q l0), (1, .i l1), (2, .i v12.1), (3, .i v12.2.1)] [] x14) h ?_ (fun j13 hj13 h => ?_)
          · skip
            intro  x14 h
            refine k_iinc (w := 1) o hb dX12_solve_69 2 rfl (by decide) rfl ?_
            refine k_iconst (v := 1) o hb dX12_solve_72 (by decide) ?_
            refine k_istore o hb dX12_solve_73 rfl ?_
            refine k_iinc (w := (-1)) o hb dX12_solve_75 4 rfl (by decide) rfl ?_
            refine k_goto (tgt := 7) o hb dX12_solve_78 (by decide) ?_
            exact KW.sub [3, 4, 2, 0, 1] rfl (ih2 ((v12.1 + 1), (v12.2.1 + (-1)), 1) x14 h)
          · skip
            refine k_icmp_ge (tgt := 69) o hb dX12_solve_35 (by decide) h (fun h => ?_) (fun h => ?_)
            · skip
              exact KW.sub [0, 1, 2, 3] rfl (hj13 x11 h)
            · skip
              refine k_iload_n o hb dX12_solve_38 rfl 2 rfl ?_
              refine k_bipush (v := 100) o hb dX12_solve_39 (by decide) ?_
              refine k_icmp_ge (tgt := 69) o hb dX12_solve_41 (by decide) h (fun h => ?_) (fun h => ?_)
              · skip
                exact KW.sub [0, 1, 2, 3] rfl (hj13 x11 h)
              · skip
                refine k_aload_n o hb dX12_solve_44 rfl 0 rfl ?_
                refine k_getF (C := RX12) (T := TX12) (N := 57) o hb hts in12 hown rfl (by decide) 54 (by decide) rfl (hts (.fieldLink RX12 130 "FactKeeperModel" "newTold" "[I") (by decide +kernel)) (fun _ h9 => h9) dX12_solve_45 h (fun v15 h => ?_)
                refine k_bipush (v := 8) o hb dX12_solve_48 (by decide) ?_
                refine k_iload_n o hb dX12_solve_50 rfl 2 rfl ?_
                refine k_imul o hb dX12_solve_51 ?_
                refine k_iload o hb dX12_solve_52 4 rfl ?_
                refine k_iadd o hb dX12_solve_54 ?_
                refine k_aload_n o hb dX12_solve_55 rfl 0 rfl ?_
                refine k_getF (C := RX12) (T := TX12) (N := 57) o hb hts in12 hown rfl (by decide) 50 (by decide) rfl (hts (.fieldLink RX12 118 "FactKeeperModel" "variable" "[I") (by decide +kernel)) (fun _ h9 => h9) dX12_solve_56 h (fun v16 h => ?_)
                refine k_iload o hb dX12_solve_59 4 rfl ?_
                refine k_iald o hb dX12_solve_61 h (fun v17 h => ?_)
                refine k_iast o hb dX12_solve_62 h (fun x18 h => ?_)
                refine k_iinc (w := 1) o hb dX12_solve_63 4 rfl (by decide) rfl ?_
                refine k_goto (tgt := 31) o hb dX12_solve_66 (by decide) ?_
                exact KW.sub [1, 2, 3, 4, 0] rfl (ih10 (v12.1, v12.2.1, (v12.2.2 + 1)) x18 h)
        · skip
          refine k_aload_n o hb dX12_solve_81 rfl 0 rfl ?_
          refine k_getF (C := RX12) (T := TX12) (N := 57) o hb hts in12 hown rfl (by decide) 44 (by decide) rfl (hts (.fieldLink RX12 103 "FactKeeperModel" "goal" "[I") (by decide +kernel)) (fun _ h9 => h9) dX12_solve_82 h (fun v19 h => ?_)
          refine k_iload_n o hb dX12_solve_85 rfl 3 rfl ?_
          refine k_iald o hb dX12_solve_86 h (fun v20 h => ?_)
          refine k_if_eq (tgt := 127) o hb dX12_solve_87 (by decide) h (fun h => ?_) (fun h => ?_)
          · skip
            refine k_iload o hb dX12_solve_127 4 rfl ?_
            refine wJoin_elim (M := fun K => ∀ (v23 : Int32) (x22 : HS), K v23 x22 → KW g 7 157 [(0, .q l0), (1, .i l1), (2, .i v4.1), (3, .i v4.2.1)] [.i v23] x22) h ?_ (fun j21 hj21 h => ?_)
            · skip
              intro v23 x22 h
              refine k_istore o hb dX12_solve_157 rfl ?_
              refine k_aload_n o hb dX12_solve_159 rfl 1 rfl ?_
              refine k_iload_n o hb dX12_solve_160 rfl 4 rfl ?_
              refine k_iload o hb dX12_solve_161 0 rfl ?_
              refine k_iload_n o hb dX12_solve_163 rfl 2 rfl ?_
              refine k_run_i o (fun _ _ q => q) (k_runV (ci := 12) (rc := (RX12, TX12, 57)) o hb B.hml hown hts rfl (by decide) (T_X12_match g.l o.hl g.D g.cA h.2) (cwV 3 hts gX12_solve_X12_match rfl rfl rfl (by decide +kernel) ⟨yle B.hR1 rfl, yle B.hR2 rfl⟩) h.1 rfl rfl (Nat.le_of_ble_eq_true rfl) dX12_solve_164) (fun v25 x24 h => ?_)
              refine k_istore o hb dX12_solve_167 rfl ?_
              refine k_iload o hb dX12_solve_169 0 rfl ?_
              refine wJoin_elim (M := fun K => ∀ (v28 : Int32) (x27 : HS), K v28 x27 → KW g 7 179 [(0, .q l0), (1, .i l1), (2, .i v4.1), (3, .i v4.2.1), (6, .i v25)] [.i v28] x27) h ?_ (fun j26 hj26 h => ?_)
              · skip
                intro v28 x27 h
                refine k_istore o hb dX12_solve_179 rfl ?_
                refine k_iload o hb dX12_solve_181 0 rfl ?_
                refine wJoin_elim (M := fun K => ∀ (v31 : Int32) (x30 : HS), K v31 x30 → KW g 7 210 [(0, .q l0), (1, .i l1), (2, .i v4.1), (3, .i v31), (4, .i v28)] [] x30) h ?_ (fun j29 hj29 h => ?_)
                · skip
                  intro v31 x30 h
                  refine k_goto (tgt := 7) o hb dX12_solve_210 (by decide) ?_
                  exact KW.sub [0, 1, 2, 3, 4] rfl (ih2 (v4.1, v31, v28) x30 h)
                · skip
                  refine k_if_eq (tgt := 192) o hb dX12_solve_183 (by decide) h (fun h => ?_) (fun h => ?_)
                  · skip
                    refine k_aload_n o hb dX12_solve_192 rfl 1 rfl ?_
                    refine k_getF (C := RX12) (T := TX12) (N := 57) o hb hts in12 hown rfl (by decide) 51 (by decide) rfl (hts (.fieldLink RX12 121 "FactKeeperModel" "standing" "[I") (by decide +kernel)) (fun _ h9 => h9) dX12_solve_193 h (fun v32 h => ?_)
                    refine k_iload_n o hb dX12_solve_196 rfl 4 rfl ?_
                    refine k_iload o hb dX12_solve_197 5 rfl ?_
                    refine k_iast o hb dX12_solve_199 h (fun x33 h => ?_)
                    refine k_aload_n o hb dX12_solve_200 rfl 1 rfl ?_
                    refine k_iload_n o hb dX12_solve_201 rfl 4 rfl ?_
                    refine k_iload o hb dX12_solve_202 5 rfl ?_
                    refine k_run_v o (fun _ _ q => q) (k_runV (ci := 12) (rc := (RX12, TX12, 57)) o hb B.hml hown hts rfl (by decide) (T_X12_give g.l o.hl g.D g.cA h.2) (cwV 2 hts gX12_solve_X12_give rfl rfl rfl (by decide +kernel) ⟨yle B.hR1 rfl, yle B.hR2 rfl⟩) h.1 rfl rfl (Nat.le_of_ble_eq_true rfl) dX12_solve_204) (fun x34 h => ?_)
                    refine k_iinc (w := 1) o hb dX12_solve_207 4 rfl (by decide) rfl ?_
                    exact KW.sub [2, 3, 4, 0, 1] rfl (hj29 (v4.2.1 + 1) x34 h)
                  · skip
                    refine k_iinc (w := (-1)) o hb dX12_solve_186 4 rfl (by decide) rfl ?_
                    refine k_goto (tgt := 210) o hb dX12_solve_189 (by decide) ?_
                    exact KW.sub [2, 3, 4, 0, 1] rfl (hj29 (v4.2.1 + (-1)) x27 h)
              · skip
                refine k_if_ge (tgt := 178) o hb dX12_solve_171 (by decide) h (fun h => ?_) (fun h => ?_)
                · skip
                  refine k_iconst (v := 0) o hb dX12_solve_178 (by decide) ?_
                  exact KW.sub [2, 3, 4, 5, 0] rfl (hj26 0 x24 h)
                · skip
                  refine k_iconst (v := 1) o hb dX12_solve_174 (by decide) ?_
                  refine k_goto (tgt := 179) o hb dX12_solve_175 (by decide) ?_
                  exact KW.sub [2, 3, 4, 5, 0] rfl (hj26 1 x24 h)
            · skip
              refine k_if_eq (tgt := 146) o hb dX12_solve_129 (by decide) h (fun h => ?_) (fun h => ?_)
              · skip
                refine k_aload_n o hb dX12_solve_146 rfl 0 rfl ?_
                refine k_getF (C := RX12) (T := TX12) (N := 57) o hb hts in12 hown rfl (by decide) 7 (by decide) rfl (hts (.fieldLink RX12 30 "FactKeeperModel" "first" "[I") (by decide +kernel)) (fun _ h9 => h9) dX12_solve_147 h (fun v36 h => ?_)
                refine k_aload_n o hb dX12_solve_150 rfl 0 rfl ?_
                refine k_getF (C := RX12) (T := TX12) (N := 57) o hb hts in12 hown rfl (by decide) 45 (by decide) rfl (hts (.fieldLink RX12 106 "FactKeeperModel" "goalTable" "[I") (by decide +kernel)) (fun _ h9 => h9) dX12_solve_151 h (fun v37 h => ?_)
                refine k_iload_n o hb dX12_solve_154 rfl 3 rfl ?_
                refine k_iald o hb dX12_solve_155 h (fun v38 h => ?_)
                refine k_iald o hb dX12_solve_156 h (fun v39 h => ?_)
                exact KW.sub [0, 1, 2, 3] rfl (hj21 v39 x3 h)
              · skip
                refine k_aload_n o hb dX12_solve_132 rfl 0 rfl ?_
                refine k_getF (C := RX12) (T := TX12) (N := 57) o hb hts in12 hown rfl (by decide) 18 (by decide) rfl (hts (.fieldLink RX12 61 "FactKeeperModel" "behind" "[I") (by decide +kernel)) (fun _ h9 => h9) dX12_solve_133 h (fun v40 h => ?_)
                refine k_aload_n o hb dX12_solve_136 rfl 0 rfl ?_
                refine k_getF (C := RX12) (T := TX12) (N := 57) o hb hts in12 hown rfl (by decide) 51 (by decide) rfl (hts (.fieldLink RX12 121 "FactKeeperModel" "standing" "[I") (by decide +kernel)) (fun _ h9 => h9) dX12_solve_137 h (fun v41 h => ?_)
                refine k_iload_n o hb dX12_solve_140 rfl 3 rfl ?_
                refine k_iald o hb dX12_solve_141 h (fun v42 h => ?_)
                refine k_iald o hb dX12_solve_142 h (fun v43 h => ?_)
                refine k_goto (tgt := 157) o hb dX12_solve_143 (by decide) ?_
                exact KW.sub [0, 1, 2, 3] rfl (hj21 v43 x3 h)
          · skip
            refine k_iload o hb dX12_solve_90 4 rfl ?_
            refine wJoin_elim (M := fun K => ∀ (v46 : Int32) (x45 : HS), K v46 x45 → KW g 7 109 [(0, .q l0), (1, .i l1), (2, .i v4.1), (3, .i v4.2.1)] [.i v46] x45) h ?_ (fun j44 hj44 h => ?_)
            · skip
              intro v46 x45 h
              refine k_istore o hb dX12_solve_109 rfl ?_
              refine k_iload_n o hb dX12_solve_111 rfl 4 rfl ?_
              refine k_iload o hb dX12_solve_112 0 rfl ?_
              refine wJoin_elim (M := fun K => ∀ (v49 : Int32) (x48 : HS), K v49 x48 → KW g 7 122 [(0, .q l0), (1, .i l1), (2, .i v4.1), (4, .i v46)] [.i v49, .i v4.2.1] x48) h ?_ (fun j47 hj47 h => ?_)
              · skip
                intro v49 x48 h
                refine k_iadd o hb dX12_solve_122 ?_
                refine k_istore_n o hb dX12_solve_123 rfl rfl ?_
                refine k_goto (tgt := 7) o hb dX12_solve_124 (by decide) ?_
                exact KW.sub [1, 2, 3, 0, 4] rfl (ih2 (v4.1, (v4.2.1 + v49), v46) x48 h)
              · skip
                refine k_if_eq (tgt := 121) o hb dX12_solve_114 (by decide) h (fun h => ?_) (fun h => ?_)
                · skip
                  refine k_iconst (v := 1) o hb dX12_solve_121 (by decide) ?_
                  exact KW.sub [1, 2, 3, 0] rfl (hj47 1 x45 h)
                · skip
                  refine k_iconst (v := (-1)) o hb dX12_solve_117 (by decide) ?_
                  refine k_goto (tgt := 122) o hb dX12_solve_118 (by decide) ?_
                  exact KW.sub [1, 2, 3, 0] rfl (hj47 (-1) x45 h)
            · skip
              refine wJoin_elim (M := fun K => ∀  (x51 : HS), K  x51 → KW g 7 104 [(0, .q l0), (1, .i l1), (2, .i v4.1), (3, .i v4.2.1)] [] x51) h ?_ (fun j50 hj50 h => ?_)
              · skip
                intro  x51 h
                refine k_iconst (v := 1) o hb dX12_solve_104 (by decide) ?_
                refine k_goto (tgt := 109) o hb dX12_solve_105 (by decide) ?_
                exact KW.sub [0, 1, 2, 3] rfl (hj44 1 x51 h)
              · skip
                refine k_if_ne (tgt := 104) o hb dX12_solve_92 (by decide) h (fun h => ?_) (fun h => ?_)
                · skip
                  refine k_aload_n o hb dX12_solve_95 rfl 0 rfl ?_
                  refine k_iload_n o hb dX12_solve_96 rfl 3 rfl ?_
                  refine k_iload_n o hb dX12_solve_97 rfl 1 rfl ?_
                  refine k_run_i o (fun _ _ q => q) (k_runV (ci := 12) (rc := (RX12, TX12, 57)) o hb B.hml hown hts rfl (by decide) (T_X12_holds g.l o.hl g.D g.cA h.2) (cwV 2 hts gX12_solve_X12_holds rfl rfl rfl (by decide +kernel) ⟨yle B.hR1 rfl, yle B.hR2 rfl⟩) h.1 rfl rfl (Nat.le_of_ble_eq_true rfl) dX12_solve_98) (fun v53 x52 h => ?_)
                  refine k_if_ne (tgt := 108) o hb dX12_solve_101 (by decide) h (fun h => ?_) (fun h => ?_)
                  · skip
                    exact KW.sub [0, 1, 2, 3] rfl (hj50 x52 h)
                  · skip
                    refine k_iconst (v := 0) o hb dX12_solve_108 (by decide) ?_
                    exact KW.sub [0, 1, 2, 3] rfl (hj44 0 x52 h)
                · skip
                  exact KW.sub [0, 1, 2, 3] rfl (hj50 x3 h)
theorem dX12_question_0 : decode cX12_question 0 = .ok (.aload_n 0, 1) := by decide +kernel
theorem dX12_question_1 : decode cX12_question 1 = .ok (.getfield 133, 3) := by decide +kernel
theorem dX12_question_4 : decode cX12_question 4 = .ok (.istore_n 2, 1) := by decide +kernel
theorem dX12_question_5 : decode cX12_question 5 = .ok (.aload_n 0, 1) := by decide +kernel
theorem dX12_question_6 : decode cX12_question 6 = .ok (.iconst 0, 1) := by decide +kernel
theorem dX12_question_7 : decode cX12_question 7 = .ok (.putfield 133, 3) := by decide +kernel
theorem dX12_question_10 : decode cX12_question 10 = .ok (.aload_n 0, 1) := by decide +kernel
theorem dX12_question_11 : decode cX12_question 11 = .ok (.iconst (-1), 1) := by decide +kernel
theorem dX12_question_12 : decode cX12_question 12 = .ok (.putfield 100, 3) := by decide +kernel
theorem dX12_question_15 : decode cX12_question 15 = .ok (.aload_n 0, 1) := by decide +kernel
theorem dX12_question_16 : decode cX12_question 16 = .ok (.aload_n 0, 1) := by decide +kernel
theorem dX12_question_17 : decode cX12_question 17 = .ok (.iload_n 1, 1) := by decide +kernel
theorem dX12_question_18 : decode cX12_question 18 = .ok (.invokevirtual 217, 3) := by decide +kernel
theorem dX12_question_21 : decode cX12_question 21 = .ok (.ifCond .ne 7, 3) := by decide +kernel
theorem dX12_question_24 : decode cX12_question 24 = .ok (.iconst 1, 1) := by decide +kernel
theorem dX12_question_25 : decode cX12_question 25 = .ok (.goto 4, 3) := by decide +kernel
theorem dX12_question_28 : decode cX12_question 28 = .ok (.iconst 0, 1) := by decide +kernel
theorem dX12_question_29 : decode cX12_question 29 = .ok (.invokevirtual 136, 3) := by decide +kernel
theorem dX12_question_32 : decode cX12_question 32 = .ok (.ifCond .eq 5, 3) := by decide +kernel
theorem dX12_question_35 : decode cX12_question 35 = .ok (.iconst 0, 1) := by decide +kernel
theorem dX12_question_36 : decode cX12_question 36 = .ok (.ireturn, 1) := by decide +kernel
theorem dX12_question_37 : decode cX12_question 37 = .ok (.aload_n 0, 1) := by decide +kernel
theorem dX12_question_38 : decode cX12_question 38 = .ok (.aload_n 0, 1) := by decide +kernel
theorem dX12_question_39 : decode cX12_question 39 = .ok (.iload_n 2, 1) := by decide +kernel
theorem dX12_question_40 : decode cX12_question 40 = .ok (.invokevirtual 306, 3) := by decide +kernel
theorem dX12_question_43 : decode cX12_question 43 = .ok (.ifCond .ne 7, 3) := by decide +kernel
theorem dX12_question_46 : decode cX12_question 46 = .ok (.iconst 2, 1) := by decide +kernel
theorem dX12_question_47 : decode cX12_question 47 = .ok (.goto 4, 3) := by decide +kernel
theorem dX12_question_50 : decode cX12_question 50 = .ok (.iconst 0, 1) := by decide +kernel
theorem dX12_question_51 : decode cX12_question 51 = .ok (.invokevirtual 136, 3) := by decide +kernel
theorem dX12_question_54 : decode cX12_question 54 = .ok (.ifCond .eq 5, 3) := by decide +kernel
theorem dX12_question_57 : decode cX12_question 57 = .ok (.iconst 0, 1) := by decide +kernel
theorem dX12_question_58 : decode cX12_question 58 = .ok (.ireturn, 1) := by decide +kernel
theorem dX12_question_59 : decode cX12_question 59 = .ok (.aload_n 0, 1) := by decide +kernel
theorem dX12_question_60 : decode cX12_question 60 = .ok (.iconst 0, 1) := by decide +kernel
theorem dX12_question_61 : decode cX12_question 61 = .ok (.putfield 168, 3) := by decide +kernel
theorem dX12_question_64 : decode cX12_question 64 = .ok (.aload_n 0, 1) := by decide +kernel
theorem dX12_question_65 : decode cX12_question 65 = .ok (.iconst 1, 1) := by decide +kernel
theorem dX12_question_66 : decode cX12_question 66 = .ok (.putfield 176, 3) := by decide +kernel
theorem dX12_question_69 : decode cX12_question 69 = .ok (.aload_n 0, 1) := by decide +kernel
theorem dX12_question_70 : decode cX12_question 70 = .ok (.aload_n 0, 1) := by decide +kernel
theorem dX12_question_71 : decode cX12_question 71 = .ok (.iload_n 1, 1) := by decide +kernel
theorem dX12_question_72 : decode cX12_question 72 = .ok (.invokevirtual 220, 3) := by decide +kernel
theorem dX12_question_75 : decode cX12_question 75 = .ok (.invokevirtual 309, 3) := by decide +kernel
theorem dX12_question_78 : decode cX12_question 78 = .ok (.istore_n 3, 1) := by decide +kernel
theorem dX12_question_79 : decode cX12_question 79 = .ok (.aload_n 0, 1) := by decide +kernel
theorem dX12_question_80 : decode cX12_question 80 = .ok (.iconst 0, 1) := by decide +kernel
theorem dX12_question_81 : decode cX12_question 81 = .ok (.putfield 176, 3) := by decide +kernel
theorem dX12_question_84 : decode cX12_question 84 = .ok (.aload_n 0, 1) := by decide +kernel
theorem dX12_question_85 : decode cX12_question 85 = .ok (.getfield 168, 3) := by decide +kernel
theorem dX12_question_88 : decode cX12_question 88 = .ok (.ldc 175, 2) := by decide +kernel
theorem dX12_question_90 : decode cX12_question 90 = .ok (.if_icmp .le 17, 3) := by decide +kernel
theorem dX12_question_93 : decode cX12_question 93 = .ok (.aload_n 0, 1) := by decide +kernel
theorem dX12_question_94 : decode cX12_question 94 = .ok (.ldc_w 312, 3) := by decide +kernel
theorem dX12_question_97 : decode cX12_question 97 = .ok (.putfield 168, 3) := by decide +kernel
theorem dX12_question_100 : decode cX12_question 100 = .ok (.aload_n 0, 1) := by decide +kernel
theorem dX12_question_101 : decode cX12_question 101 = .ok (.iconst 3, 1) := by decide +kernel
theorem dX12_question_102 : decode cX12_question 102 = .ok (.putfield 1, 3) := by decide +kernel
theorem dX12_question_105 : decode cX12_question 105 = .ok (.iconst 0, 1) := by decide +kernel
theorem dX12_question_106 : decode cX12_question 106 = .ok (.ireturn, 1) := by decide +kernel
theorem dX12_question_107 : decode cX12_question 107 = .ok (.aload_n 0, 1) := by decide +kernel
theorem dX12_question_108 : decode cX12_question 108 = .ok (.iload_n 3, 1) := by decide +kernel
theorem dX12_question_109 : decode cX12_question 109 = .ok (.putfield 313, 3) := by decide +kernel
theorem dX12_question_112 : decode cX12_question 112 = .ok (.aload_n 0, 1) := by decide +kernel
theorem dX12_question_113 : decode cX12_question 113 = .ok (.aload_n 0, 1) := by decide +kernel
theorem dX12_question_114 : decode cX12_question 114 = .ok (.getfield 115, 3) := by decide +kernel
theorem dX12_question_117 : decode cX12_question 117 = .ok (.aload_n 0, 1) := by decide +kernel
theorem dX12_question_118 : decode cX12_question 118 = .ok (.getfield 281, 3) := by decide +kernel
theorem dX12_question_121 : decode cX12_question 121 = .ok (.iaload, 1) := by decide +kernel
theorem dX12_question_122 : decode cX12_question 122 = .ok (.putfield 316, 3) := by decide +kernel
theorem dX12_question_125 : decode cX12_question 125 = .ok (.iconst 0, 1) := by decide +kernel
theorem dX12_question_126 : decode cX12_question 126 = .ok (.istore 4, 2) := by decide +kernel
theorem dX12_question_128 : decode cX12_question 128 = .ok (.iload 4, 2) := by decide +kernel
theorem dX12_question_130 : decode cX12_question 130 = .ok (.sipush 800, 3) := by decide +kernel
theorem dX12_question_133 : decode cX12_question 133 = .ok (.if_icmp .ge 23, 3) := by decide +kernel
theorem dX12_question_136 : decode cX12_question 136 = .ok (.aload_n 0, 1) := by decide +kernel
theorem dX12_question_137 : decode cX12_question 137 = .ok (.getfield 127, 3) := by decide +kernel
theorem dX12_question_140 : decode cX12_question 140 = .ok (.iload 4, 2) := by decide +kernel
theorem dX12_question_142 : decode cX12_question 142 = .ok (.aload_n 0, 1) := by decide +kernel
theorem dX12_question_143 : decode cX12_question 143 = .ok (.getfield 130, 3) := by decide +kernel
theorem dX12_question_146 : decode cX12_question 146 = .ok (.iload 4, 2) := by decide +kernel
theorem dX12_question_148 : decode cX12_question 148 = .ok (.iaload, 1) := by decide +kernel
theorem dX12_question_149 : decode cX12_question 149 = .ok (.iastore, 1) := by decide +kernel
theorem dX12_question_150 : decode cX12_question 150 = .ok (.iinc 4 1, 3) := by decide +kernel
theorem dX12_question_153 : decode cX12_question 153 = .ok (.goto (-25), 3) := by decide +kernel
theorem dX12_question_156 : decode cX12_question 156 = .ok (.iload_n 3, 1) := by decide +kernel
theorem dX12_question_157 : decode cX12_question 157 = .ok (.ireturn, 1) := by decide +kernel
theorem i9wsX12_question_0 : ∀ w ∈ wsX12_question_r1, w ∈ wsX12_question := fun _ h => (List.mem_cons_of_mem _ (List.mem_append_left _ (List.mem_append_left _ h)))
theorem i9wsX12_question_6 : ∀ w ∈ wsX120, w ∈ wsX12_question := fun _ h => (List.mem_cons_of_mem _ (List.mem_append_right _ h))
set_option maxRecDepth 20000 in
theorem ggX12_question_X12_isTime : GoodIn wsX12_question wsX12_isTime := (gin_c (mem_at i9wsX12_question_0 17 rfl) rfl (goodIn_app (gin_c (mem_at i9wsX12_question_0 18 rfl) rfl (gin_c (mem_at i9wsX12_question_0 19 rfl) rfl gin_n)) (goodIn_sub i9wsX12_question_6 g9_16)))
set_option maxRecDepth 20000 in
theorem gX12_question_X12_isTime : GoodIn wsX12_question (wsV RX12 217 RX12 yX12_isTime wsX12_isTime) := goodIn_app (gin_c (mem_at i9wsX12_question_0 13 rfl) rfl (gin_c (mem_at i9wsX12_question_0 14 rfl) rfl (gin_c (mem_at i9wsX12_question_0 15 rfl) rfl (gin_c (mem_at i9wsX12_question_0 16 rfl) rfl gin_n)))) ggX12_question_X12_isTime
set_option maxRecDepth 20000 in
theorem ggX12_question_X12_fails : GoodIn wsX12_question wsX12_fails := (gin_c (mem_at i9wsX12_question_0 23 rfl) rfl (goodIn_app (gin_c (mem_at i9wsX12_question_0 6 rfl) rfl gin_n) (goodIn_sub i9wsX12_question_6 g9_16)))
set_option maxRecDepth 20000 in
theorem gX12_question_X12_fails : GoodIn wsX12_question (wsV RX12 136 RX12 yX12_fails wsX12_fails) := goodIn_app (gin_c (mem_at i9wsX12_question_0 20 rfl) rfl (gin_c (mem_at i9wsX12_question_0 21 rfl) rfl (gin_c (mem_at i9wsX12_question_0 22 rfl) rfl (gin_c (mem_at i9wsX12_question_0 16 rfl) rfl gin_n)))) ggX12_question_X12_fails
theorem i9wsX12_question_1 : ∀ w ∈ wsX12_question_r2, w ∈ wsX12_question := fun _ h => (List.mem_cons_of_mem _ (List.mem_append_left _ (List.mem_append_right _ (List.mem_append_left _ h))))
theorem i9wsX12_question_2 : ∀ w ∈ wsX12_question_r3, w ∈ wsX12_question := fun _ h => (List.mem_cons_of_mem _ (List.mem_append_left _ (List.mem_append_right _ (List.mem_append_right _ (List.mem_append_left _ h)))))
theorem i9wsX12_question_3 : ∀ w ∈ wsX12_question_r4, w ∈ wsX12_question := fun _ h => (List.mem_cons_of_mem _ (List.mem_append_left _ (List.mem_append_right _ (List.mem_append_right _ (List.mem_append_right _ (List.mem_append_left _ h))))))
set_option maxRecDepth 20000 in
theorem ggX12_question_X12_isQuestion : GoodIn wsX12_question wsX12_isQuestion := (gin_c (mem_at i9wsX12_question_1 3 rfl) rfl (goodIn_app (goodIn_app (gin_c (mem_at i9wsX12_question_1 4 rfl) rfl (gin_c (mem_at i9wsX12_question_1 5 rfl) rfl (gin_c (mem_at i9wsX12_question_0 9 rfl) rfl (gin_c (mem_at i9wsX12_question_0 8 rfl) rfl (gin_c (mem_at i9wsX12_question_1 6 rfl) rfl (gin_c (mem_at i9wsX12_question_1 7 rfl) rfl (gin_c (mem_at i9wsX12_question_1 8 rfl) rfl (gin_c (mem_at i9wsX12_question_1 9 rfl) rfl (gin_c (mem_at i9wsX12_question_0 16 rfl) rfl (gin_c (mem_at i9wsX12_question_1 10 rfl) rfl (gin_c (mem_at i9wsX12_question_1 11 rfl) rfl (gin_c (mem_at i9wsX12_question_1 12 rfl) rfl (gin_c (mem_at i9wsX12_question_1 13 rfl) rfl (gin_c (mem_at i9wsX12_question_1 14 rfl) rfl (gin_c (mem_at i9wsX12_question_1 15 rfl) rfl (gin_c (mem_at i9wsX12_question_1 16 rfl) rfl (gin_c (mem_at i9wsX12_question_1 17 rfl) rfl (gin_c (mem_at i9wsX12_question_1 18 rfl) rfl (gin_c (mem_at i9wsX12_question_1 19 rfl) rfl (gin_c (mem_at i9wsX12_question_0 1 rfl) rfl (gin_c (mem_at i9wsX12_question_1 20 rfl) rfl (gin_c (mem_at i9wsX12_question_1 21 rfl) rfl (gin_c (mem_at i9wsX12_question_1 22 rfl) rfl (gin_c (mem_at i9wsX12_question_1 23 rfl) rfl gin_n)))))))))))))))))))))))) (goodIn_app (gin_c (mem_at i9wsX12_question_2 0 rfl) rfl (gin_c (mem_at i9wsX12_question_2 1 rfl) rfl (gin_c (mem_at i9wsX12_question_2 2 rfl) rfl (gin_c (mem_at i9wsX12_question_2 3 rfl) rfl (gin_c (mem_at i9wsX12_question_2 4 rfl) rfl (gin_c (mem_at i9wsX12_question_2 5 rfl) rfl (gin_c (mem_at i9wsX12_question_2 6 rfl) rfl (gin_c (mem_at i9wsX12_question_2 7 rfl) rfl (gin_c (mem_at i9wsX12_question_2 8 rfl) rfl (gin_c (mem_at i9wsX12_question_2 9 rfl) rfl (gin_c (mem_at i9wsX12_question_2 10 rfl) rfl (gin_c (mem_at i9wsX12_question_2 11 rfl) rfl (gin_c (mem_at i9wsX12_question_2 12 rfl) rfl (gin_c (mem_at i9wsX12_question_2 13 rfl) rfl (gin_c (mem_at i9wsX12_question_2 14 rfl) rfl (gin_c (mem_at i9wsX12_question_2 15 rfl) rfl (gin_c (mem_at i9wsX12_question_2 16 rfl) rfl (gin_c (mem_at i9wsX12_question_2 17 rfl) rfl (gin_c (mem_at i9wsX12_question_2 18 rfl) rfl (gin_c (mem_at i9wsX12_question_2 19 rfl) rfl (gin_c (mem_at i9wsX12_question_2 20 rfl) rfl (gin_c (mem_at i9wsX12_question_2 21 rfl) rfl (gin_c (mem_at i9wsX12_question_2 22 rfl) rfl (gin_c (mem_at i9wsX12_question_2 23 rfl) rfl gin_n)))))))))))))))))))))))) (gin_c (mem_at i9wsX12_question_3 0 rfl) rfl (gin_c (mem_at i9wsX12_question_3 1 rfl) rfl (gin_c (mem_at i9wsX12_question_3 2 rfl) rfl (gin_c (mem_at i9wsX12_question_3 3 rfl) rfl (gin_c (mem_at i9wsX12_question_3 4 rfl) rfl (gin_c (mem_at i9wsX12_question_3 5 rfl) rfl (gin_c (mem_at i9wsX12_question_3 6 rfl) rfl (gin_c (mem_at i9wsX12_question_3 7 rfl) rfl (gin_c (mem_at i9wsX12_question_3 8 rfl) rfl (gin_c (mem_at i9wsX12_question_3 9 rfl) rfl (gin_c (mem_at i9wsX12_question_3 10 rfl) rfl (gin_c (mem_at i9wsX12_question_3 11 rfl) rfl (gin_c (mem_at i9wsX12_question_3 12 rfl) rfl (gin_c (mem_at i9wsX12_question_3 13 rfl) rfl (gin_c (mem_at i9wsX12_question_3 14 rfl) rfl (gin_c (mem_at i9wsX12_question_3 15 rfl) rfl (gin_c (mem_at i9wsX12_question_3 16 rfl) rfl (gin_c (mem_at i9wsX12_question_3 17 rfl) rfl gin_n)))))))))))))))))))) (goodIn_sub i9wsX12_question_6 g9_16)))
set_option maxRecDepth 20000 in
theorem gX12_question_X12_isQuestion : GoodIn wsX12_question (wsV RX12 306 RX12 yX12_isQuestion wsX12_isQuestion) := goodIn_app (gin_c (mem_at i9wsX12_question_1 0 rfl) rfl (gin_c (mem_at i9wsX12_question_1 1 rfl) rfl (gin_c (mem_at i9wsX12_question_1 2 rfl) rfl (gin_c (mem_at i9wsX12_question_0 16 rfl) rfl gin_n)))) ggX12_question_X12_isQuestion
set_option maxRecDepth 20000 in
theorem ggX12_question_X12_timeOf : GoodIn wsX12_question wsX12_timeOf := (gin_c (mem_at i9wsX12_question_3 21 rfl) rfl (goodIn_app (gin_c (mem_at i9wsX12_question_0 19 rfl) rfl gin_n) (goodIn_sub i9wsX12_question_6 g9_16)))
set_option maxRecDepth 20000 in
theorem gX12_question_X12_timeOf : GoodIn wsX12_question (wsV RX12 220 RX12 yX12_timeOf wsX12_timeOf) := goodIn_app (gin_c (mem_at i9wsX12_question_3 18 rfl) rfl (gin_c (mem_at i9wsX12_question_3 19 rfl) rfl (gin_c (mem_at i9wsX12_question_3 20 rfl) rfl (gin_c (mem_at i9wsX12_question_0 16 rfl) rfl gin_n)))) ggX12_question_X12_timeOf
theorem i9wsX12_question_4 : ∀ w ∈ wsX12_question_r5, w ∈ wsX12_question := fun _ h => (List.mem_cons_of_mem _ (List.mem_append_left _ (List.mem_append_right _ (List.mem_append_right _ (List.mem_append_right _ (List.mem_append_right _ (List.mem_append_left _ h)))))))
theorem i9wsX12_question_5 : ∀ w ∈ wsX12_question_r6, w ∈ wsX12_question := fun _ h => (List.mem_cons_of_mem _ (List.mem_append_left _ (List.mem_append_right _ (List.mem_append_right _ (List.mem_append_right _ (List.mem_append_right _ (List.mem_append_right _ h)))))))
set_option maxRecDepth 20000 in
theorem ggX12_question_X12_solve : GoodIn wsX12_question wsX12_solve := (gin_c (mem_at i9wsX12_question_4 1 rfl) rfl (goodIn_app (goodIn_app (gin_c (mem_at i9wsX12_question_0 2 rfl) rfl (gin_c (mem_at i9wsX12_question_0 4 rfl) rfl (gin_c (mem_at i9wsX12_question_0 9 rfl) rfl (gin_c (mem_at i9wsX12_question_0 12 rfl) rfl (gin_c (mem_at i9wsX12_question_4 2 rfl) rfl (gin_c (mem_at i9wsX12_question_1 6 rfl) rfl (gin_c (mem_at i9wsX12_question_4 3 rfl) rfl (gin_c (mem_at i9wsX12_question_4 4 rfl) rfl (gin_c (mem_at i9wsX12_question_4 5 rfl) rfl (gin_c (mem_at i9wsX12_question_2 0 rfl) rfl (gin_c (mem_at i9wsX12_question_4 6 rfl) rfl (gin_c (mem_at i9wsX12_question_4 7 rfl) rfl (gin_c (mem_at i9wsX12_question_4 8 rfl) rfl (gin_c (mem_at i9wsX12_question_0 16 rfl) rfl (gin_c (mem_at i9wsX12_question_4 9 rfl) rfl (gin_c (mem_at i9wsX12_question_2 4 rfl) rfl (gin_c (mem_at i9wsX12_question_4 10 rfl) rfl (gin_c (mem_at i9wsX12_question_4 11 rfl) rfl (gin_c (mem_at i9wsX12_question_4 12 rfl) rfl (gin_c (mem_at i9wsX12_question_4 13 rfl) rfl (gin_c (mem_at i9wsX12_question_2 2 rfl) rfl (gin_c (mem_at i9wsX12_question_2 3 rfl) rfl (gin_c (mem_at i9wsX12_question_4 14 rfl) rfl (gin_c (mem_at i9wsX12_question_3 10 rfl) rfl gin_n)))))))))))))))))))))))) (goodIn_app (gin_c (mem_at i9wsX12_question_3 11 rfl) rfl (gin_c (mem_at i9wsX12_question_3 12 rfl) rfl (gin_c (mem_at i9wsX12_question_3 13 rfl) rfl (gin_c (mem_at i9wsX12_question_0 8 rfl) rfl (gin_c (mem_at i9wsX12_question_4 15 rfl) rfl (gin_c (mem_at i9wsX12_question_4 16 rfl) rfl (gin_c (mem_at i9wsX12_question_4 17 rfl) rfl (gin_c (mem_at i9wsX12_question_4 18 rfl) rfl (gin_c (mem_at i9wsX12_question_4 19 rfl) rfl (gin_c (mem_at i9wsX12_question_4 20 rfl) rfl (gin_c (mem_at i9wsX12_question_4 21 rfl) rfl (gin_c (mem_at i9wsX12_question_4 22 rfl) rfl (gin_c (mem_at i9wsX12_question_4 23 rfl) rfl (gin_c (mem_at i9wsX12_question_0 3 rfl) rfl (gin_c (mem_at i9wsX12_question_5 0 rfl) rfl (gin_c (mem_at i9wsX12_question_5 1 rfl) rfl (gin_c (mem_at i9wsX12_question_5 2 rfl) rfl (gin_c (mem_at i9wsX12_question_5 3 rfl) rfl (gin_c (mem_at i9wsX12_question_5 4 rfl) rfl (gin_c (mem_at i9wsX12_question_5 5 rfl) rfl (gin_c (mem_at i9wsX12_question_5 6 rfl) rfl (gin_c (mem_at i9wsX12_question_5 7 rfl) rfl (gin_c (mem_at i9wsX12_question_5 8 rfl) rfl (gin_c (mem_at i9wsX12_question_5 9 rfl) rfl gin_n)))))))))))))))))))))))) (gin_c (mem_at i9wsX12_question_5 10 rfl) rfl (gin_c (mem_at i9wsX12_question_5 11 rfl) rfl (gin_c (mem_at i9wsX12_question_5 12 rfl) rfl (gin_c (mem_at i9wsX12_question_5 13 rfl) rfl (gin_c (mem_at i9wsX12_question_5 14 rfl) rfl (gin_c (mem_at i9wsX12_question_5 15 rfl) rfl (gin_c (mem_at i9wsX12_question_5 16 rfl) rfl (gin_c (mem_at i9wsX12_question_5 17 rfl) rfl (gin_c (mem_at i9wsX12_question_5 18 rfl) rfl (gin_c (mem_at i9wsX12_question_5 19 rfl) rfl (gin_c (mem_at i9wsX12_question_5 20 rfl) rfl (gin_c (mem_at i9wsX12_question_5 21 rfl) rfl (gin_c (mem_at i9wsX12_question_5 22 rfl) rfl (gin_c (mem_at i9wsX12_question_5 23 rfl) rfl gin_n)))))))))))))))) (goodIn_sub i9wsX12_question_6 g9_16)))
set_option maxRecDepth 20000 in
theorem gX12_question_X12_solve : GoodIn wsX12_question (wsV RX12 309 RX12 yX12_solve wsX12_solve) := goodIn_app (gin_c (mem_at i9wsX12_question_3 22 rfl) rfl (gin_c (mem_at i9wsX12_question_3 23 rfl) rfl (gin_c (mem_at i9wsX12_question_4 0 rfl) rfl (gin_c (mem_at i9wsX12_question_0 16 rfl) rfl gin_n)))) ggX12_question_X12_solve
set_option maxHeartbeats 4000000 in
set_option maxRecDepth 100000 in
theorem T_X12_question (l : Launch) (hl : l.stackTraces = false) (D : va_G) (cA : Nat → ClassId) {l0 : Option Nat} {l1 : Int32} {x : HS} {Q : Int32 → HS → Prop} {X : String → HS → Prop} (h : w_X12_question l0 l1 x Q X) : YI l yX12_question wsX12_question 7 161 D cA [.q l0, .i l1] x Q X := by
  refine YI.of (cc := cX12_question) (maxL := 5) (ret := (some .int)) hl (by decide) rfl rfl (fun g B fr => ?_)
  have o := B.o
  have hb := B.hb
  have hts := B.hts
  have hown : g.s.vm.findClass RX12 = some g.m.cls := B.hown
  have in12 : ∀ w ∈ u_ws RX12 TX12 57, w ∈ wsX12_question := fun w h => (List.mem_cons_of_mem _ (List.mem_append_right _ h))
  unfold w_X12_question at h
  show KW g 5 0 [(0, .q l0), (1, .i l1)] [] x
  refine k_aload_n o hb dX12_question_0 rfl 0 rfl ?_
  refine k_getI (C := RX12) (T := TX12) (N := 57) o hb hts in12 hown rfl (by decide) 2 (by decide) rfl (hts (.fieldLink RX12 133 "FactKeeperModel" "taped" "I") (by decide +kernel)) (fun _ h9 => h9) dX12_question_1 h (fun v1 h => ?_)
  refine k_istore_n o hb dX12_question_4 rfl rfl ?_
  refine k_aload_n o hb dX12_question_5 rfl 1 rfl ?_
  refine k_iconst (v := 0) o hb dX12_question_6 (by decide) ?_
  refine k_putI (C := RX12) (T := TX12) (N := 57) (ty := .int) o hb hts in12 tyX12 tyX12_ok nmX12 hown rfl (by decide) 2 (by decide) rfl (hts (.fieldLink RX12 133 "FactKeeperModel" "taped" "I") (by decide +kernel)) (fun _ h9 => h9) rfl (by decide +kernel) (fun _ => rfl) (fun _ => rfl) dX12_question_7 h (fun x2 h => ?_)
  refine k_aload_n o hb dX12_question_10 rfl 1 rfl ?_
  refine k_iconst (v := (-1)) o hb dX12_question_11 (by decide) ?_
  refine k_putI (C := RX12) (T := TX12) (N := 57) (ty := .int) o hb hts in12 tyX12 tyX12_ok nmX12 hown rfl (by decide) 42 (by decide) rfl (hts (.fieldLink RX12 100 "FactKeeperModel" "broken" "I") (by decide +kernel)) (fun _ h9 => h9) rfl (by decide +kernel) (fun _ => rfl) (fun _ => rfl) dX12_question_12 h (fun x3 h => ?_)
  refine k_aload_n o hb dX12_question_15 rfl 1 rfl ?_
  refine k_aload_n o hb dX12_question_16 rfl 1 rfl ?_
  refine k_iload_n o hb dX12_question_17 rfl 2 rfl ?_
  refine k_run_i o (fun _ _ q => q) (k_runV (ci := 12) (rc := (RX12, TX12, 57)) o hb B.hml hown hts rfl (by decide) (T_X12_isTime g.l o.hl g.D g.cA h.2) (cwV 1 hts gX12_question_X12_isTime rfl rfl rfl (by decide +kernel) ⟨yle B.hR1 rfl, yle B.hR2 rfl⟩) h.1 rfl rfl (Nat.le_of_ble_eq_true rfl) dX12_question_18) (fun v5 x4 h => ?_)
  refine wJoin_elim (M := fun K => ∀ (v8 : Int32) (x7 : HS), K v8 x7 → KW g 5 29 [(0, .q l0), (1, .i l1), (2, .i v1)] [.i v8, .q l0] x7) h ?_ (fun j6 hj6 h => ?_)
  · skip
    intro v8 x7 h
    refine k_run_i o (fun _ _ q => q) (k_runV (ci := 12) (rc := (RX12, TX12, 57)) o hb B.hml hown hts rfl (by decide) (T_X12_fails g.l o.hl g.D g.cA h.2) (cwV 1 hts gX12_question_X12_fails rfl rfl rfl (by decide +kernel) ⟨yle B.hR1 rfl, yle B.hR2 rfl⟩) h.1 rfl rfl (Nat.le_of_ble_eq_true rfl) dX12_question_29) (fun v10 x9 h => ?_)
    refine k_if_eq (tgt := 37) o hb dX12_question_32 (by decide) h (fun h => ?_) (fun h => ?_)
    · skip
      refine k_aload_n o hb dX12_question_37 rfl 0 rfl ?_
      refine k_aload_n o hb dX12_question_38 rfl 0 rfl ?_
      refine k_iload_n o hb dX12_question_39 rfl 2 rfl ?_
      refine k_run_i o (fun _ _ q => q) (k_runV (ci := 12) (rc := (RX12, TX12, 57)) o hb B.hml hown hts rfl (by decide) (T_X12_isQuestion g.l o.hl g.D g.cA h.2) (cwV 1 hts gX12_question_X12_isQuestion rfl rfl rfl (by decide +kernel) ⟨yle B.hR1 rfl, yle B.hR2 rfl⟩) h.1 rfl rfl (Nat.le_of_ble_eq_true rfl) dX12_question_40) (fun v12 x11 h => ?_)
      refine wJoin_elim (M := fun K => ∀ (v15 : Int32) (x14 : HS), K v15 x14 → KW g 5 51 [(0, .q l0), (1, .i l1)] [.i v15, .q l0] x14) h ?_ (fun j13 hj13 h => ?_)
      · skip
        intro v15 x14 h
        refine k_run_i o (fun _ _ q => q) (k_runV (ci := 12) (rc := (RX12, TX12, 57)) o hb B.hml hown hts rfl (by decide) (T_X12_fails g.l o.hl g.D g.cA h.2) (cwV 1 hts gX12_question_X12_fails rfl rfl rfl (by decide +kernel) ⟨yle B.hR1 rfl, yle B.hR2 rfl⟩) h.1 rfl rfl (Nat.le_of_ble_eq_true rfl) dX12_question_51) (fun v17 x16 h => ?_)
        refine k_if_eq (tgt := 59) o hb dX12_question_54 (by decide) h (fun h => ?_) (fun h => ?_)
        · skip
          refine k_aload_n o hb dX12_question_59 rfl 0 rfl ?_
          refine k_iconst (v := 0) o hb dX12_question_60 (by decide) ?_
          refine k_putI (C := RX12) (T := TX12) (N := 57) (ty := .int) o hb hts in12 tyX12 tyX12_ok nmX12 hown rfl (by decide) 38 (by decide) rfl (hts (.fieldLink RX12 168 "FactKeeperModel" "looked" "I") (by decide +kernel)) (fun _ h9 => h9) rfl (by decide +kernel) (fun _ => rfl) (fun _ => rfl) dX12_question_61 h (fun x18 h => ?_)
          refine k_aload_n o hb dX12_question_64 rfl 0 rfl ?_
          refine k_iconst (v := 1) o hb dX12_question_65 (by decide) ?_
          refine k_putZ (C := RX12) (T := TX12) (N := 57) (ty := .boolean) o hb hts in12 tyX12 tyX12_ok nmX12 hown rfl (by decide) 39 (by decide) rfl (hts (.fieldLink RX12 176 "FactKeeperModel" "asks" "Z") (by decide +kernel)) (fun _ h9 => h9) rfl (by decide +kernel) ⟨by decide, by decide⟩ ⟨by decide, by decide⟩ dX12_question_66 h (fun x19 h => ?_)
          refine k_aload_n o hb dX12_question_69 rfl 0 rfl ?_
          refine k_aload_n o hb dX12_question_70 rfl 0 rfl ?_
          refine k_iload_n o hb dX12_question_71 rfl 1 rfl ?_
          refine k_run_i o (fun _ _ q => q) (k_runV (ci := 12) (rc := (RX12, TX12, 57)) o hb B.hml hown hts rfl (by decide) (T_X12_timeOf g.l o.hl g.D g.cA h.2) (cwV 1 hts gX12_question_X12_timeOf rfl rfl rfl (by decide +kernel) ⟨yle B.hR1 rfl, yle B.hR2 rfl⟩) h.1 rfl rfl (Nat.le_of_ble_eq_true rfl) dX12_question_72) (fun v21 x20 h => ?_)
          refine k_run_i o (fun _ _ q => q) (k_runV (ci := 12) (rc := (RX12, TX12, 57)) o hb B.hml hown hts rfl (by decide) (T_X12_solve g.l o.hl g.D g.cA h.2) (cwV 1 hts gX12_question_X12_solve rfl rfl rfl (by decide +kernel) ⟨yle B.hR1 rfl, yle B.hR2 rfl⟩) h.1 rfl rfl (Nat.le_of_ble_eq_true rfl) dX12_question_75) (fun v23 x22 h => ?_)
          refine k_istore_n o hb dX12_question_78 rfl rfl ?_
          refine k_aload_n o hb dX12_question_79 rfl 1 rfl ?_
          refine k_iconst (v := 0) o hb dX12_question_80 (by decide) ?_
          refine k_putZ (C := RX12) (T := TX12) (N := 57) (ty := .boolean) o hb hts in12 tyX12 tyX12_ok nmX12 hown rfl (by decide) 39 (by decide) rfl (hts (.fieldLink RX12 176 "FactKeeperModel" "asks" "Z") (by decide +kernel)) (fun _ h9 => h9) rfl (by decide +kernel) ⟨by decide, by decide⟩ ⟨by decide, by decide⟩ dX12_question_81 h (fun x24 h => ?_)
          refine k_aload_n o hb dX12_question_84 rfl 1 rfl ?_
          refine k_getI (C := RX12) (T := TX12) (N := 57) o hb hts in12 hown rfl (by decide) 38 (by decide) rfl (hts (.fieldLink RX12 168 "FactKeeperModel" "looked" "I") (by decide +kernel)) (fun _ h9 => h9) dX12_question_85 h (fun v25 h => ?_)
          refine k_ldc (v := 50000) o hb hown (hts (.constant RX12 175 50000) (by decide +kernel)) dX12_question_88 ?_
          refine k_icmp_le (tgt := 107) o hb dX12_question_90 (by decide) h (fun h => ?_) (fun h => ?_)
          · skip
            refine k_aload_n o hb dX12_question_107 rfl 1 rfl ?_
            refine k_iload_n o hb dX12_question_108 rfl 0 rfl ?_
            refine k_putI (C := RX12) (T := TX12) (N := 57) (ty := .int) o hb hts in12 tyX12 tyX12_ok nmX12 hown rfl (by decide) 55 (by decide) rfl (hts (.fieldLink RX12 313 "FactKeeperModel" "toldMany" "I") (by decide +kernel)) (fun _ h9 => h9) rfl (by decide +kernel) (fun _ => rfl) (fun _ => rfl) dX12_question_109 h (fun x26 h => ?_)
            refine k_aload_n o hb dX12_question_112 rfl 1 rfl ?_
            refine k_aload_n o hb dX12_question_113 rfl 1 rfl ?_
            refine k_getF (C := RX12) (T := TX12) (N := 57) o hb hts in12 hown rfl (by decide) 48 (by decide) rfl (hts (.fieldLink RX12 115 "FactKeeperModel" "known" "[I") (by decide +kernel)) (fun _ h9 => h9) dX12_question_114 h (fun v27 h => ?_)
            refine k_aload_n o hb dX12_question_117 rfl 1 rfl ?_
            refine k_getI (C := RX12) (T := TX12) (N := 57) o hb hts in12 hown rfl (by decide) 49 (by decide) rfl (hts (.fieldLink RX12 281 "FactKeeperModel" "goals" "I") (by decide +kernel)) (fun _ h9 => h9) dX12_question_118 h (fun v28 h => ?_)
            refine k_iald o hb dX12_question_121 h (fun v29 h => ?_)
            refine k_putI (C := RX12) (T := TX12) (N := 57) (ty := .int) o hb hts in12 tyX12 tyX12_ok nmX12 hown rfl (by decide) 56 (by decide) rfl (hts (.fieldLink RX12 316 "FactKeeperModel" "toldKnown" "I") (by decide +kernel)) (fun _ h9 => h9) rfl (by decide +kernel) (fun _ => rfl) (fun _ => rfl) dX12_question_122 h (fun x30 h => ?_)
            refine k_iconst (v := 0) o hb dX12_question_125 (by decide) ?_
            refine k_istore o hb dX12_question_126 rfl ?_
            refine KW.sub [2, 1, 0] rfl ?_
            refine wLoop_elim (M := fun (v34 : Int32) (x33 : HS) => KW g 5 128 [(0, .q l0), (3, .i v23), (4, .i v34)] [] x33) h ?_
            intro v34 x33 again31 ih32 h
            refine k_iload o hb dX12_question_128 2 rfl ?_
            refine k_sipush (v := 800) o hb dX12_question_130 (by decide) ?_
            refine k_icmp_ge (tgt := 156) o hb dX12_question_133 (by decide) h (fun h => ?_) (fun h => ?_)
            · skip
              refine k_iload_n o hb dX12_question_156 rfl 1 rfl ?_
              exact k_iret o hb B.hr fr dX12_question_157 h
            · skip
              refine k_aload_n o hb dX12_question_136 rfl 0 rfl ?_
              refine k_getF (C := RX12) (T := TX12) (N := 57) o hb hts in12 hown rfl (by decide) 53 (by decide) rfl (hts (.fieldLink RX12 127 "FactKeeperModel" "told" "[I") (by decide +kernel)) (fun _ h9 => h9) dX12_question_137 h (fun v35 h => ?_)
              refine k_iload o hb dX12_question_140 2 rfl ?_
              refine k_aload_n o hb dX12_question_142 rfl 0 rfl ?_
              refine k_getF (C := RX12) (T := TX12) (N := 57) o hb hts in12 hown rfl (by decide) 54 (by decide) rfl (hts (.fieldLink RX12 130 "FactKeeperModel" "newTold" "[I") (by decide +kernel)) (fun _ h9 => h9) dX12_question_143 h (fun v36 h => ?_)
              refine k_iload o hb dX12_question_146 2 rfl ?_
              refine k_iald o hb dX12_question_148 h (fun v37 h => ?_)
              refine k_iast o hb dX12_question_149 h (fun x38 h => ?_)
              refine k_iinc (w := 1) o hb dX12_question_150 2 rfl (by decide) rfl ?_
              refine k_goto (tgt := 128) o hb dX12_question_153 (by decide) ?_
              exact KW.sub [1, 2, 0] rfl (ih32 (v34 + 1) x38 h)
          · skip
            refine k_aload_n o hb dX12_question_93 rfl 1 rfl ?_
            refine k_ldc_w (v := 50001) o hb hown (hts (.constant RX12 312 50001) (by decide +kernel)) dX12_question_94 ?_
            refine k_putI (C := RX12) (T := TX12) (N := 57) (ty := .int) o hb hts in12 tyX12 tyX12_ok nmX12 hown rfl (by decide) 38 (by decide) rfl (hts (.fieldLink RX12 168 "FactKeeperModel" "looked" "I") (by decide +kernel)) (fun _ h9 => h9) rfl (by decide +kernel) (fun _ => rfl) (fun _ => rfl) dX12_question_97 h (fun x39 h => ?_)
            refine k_aload_n o hb dX12_question_100 rfl 1 rfl ?_
            refine k_iconst (v := 3) o hb dX12_question_101 (by decide) ?_
            refine k_putI (C := RX12) (T := TX12) (N := 57) (ty := .int) o hb hts in12 tyX12 tyX12_ok nmX12 hown rfl (by decide) 0 (by decide) rfl (hts (.fieldLink RX12 1 "FactKeeperModel" "thrown" "I") (by decide +kernel)) (fun _ h9 => h9) rfl (by decide +kernel) (fun _ => rfl) (fun _ => rfl) dX12_question_102 h (fun x40 h => ?_)
            refine k_iconst (v := 0) o hb dX12_question_105 (by decide) ?_
            exact k_iret o hb B.hr fr dX12_question_106 h
        · skip
          refine k_iconst (v := 0) o hb dX12_question_57 (by decide) ?_
          exact k_iret o hb B.hr fr dX12_question_58 h
      · skip
        refine k_if_ne (tgt := 50) o hb dX12_question_43 (by decide) h (fun h => ?_) (fun h => ?_)
        · skip
          refine k_iconst (v := 2) o hb dX12_question_46 (by decide) ?_
          refine k_goto (tgt := 51) o hb dX12_question_47 (by decide) ?_
          exact KW.sub [0, 1] rfl (hj13 2 x11 h)
        · skip
          refine k_iconst (v := 0) o hb dX12_question_50 (by decide) ?_
          exact KW.sub [0, 1] rfl (hj13 0 x11 h)
    · skip
      refine k_iconst (v := 0) o hb dX12_question_35 (by decide) ?_
      exact k_iret o hb B.hr fr dX12_question_36 h
  · skip
    refine k_if_ne (tgt := 28) o hb dX12_question_21 (by decide) h (fun h => ?_) (fun h => ?_)
    · skip
      refine k_iconst (v := 1) o hb dX12_question_24 (by decide) ?_
      refine k_goto (tgt := 29) o hb dX12_question_25 (by decide) ?_
      exact KW.sub [1, 2, 0] rfl (hj6 1 x4 h)
    · skip
      refine k_iconst (v := 0) o hb dX12_question_28 (by decide) ?_
      exact KW.sub [1, 2, 0] rfl (hj6 0 x4 h)
theorem dX12_solution_0 : decode cX12_solution 0 = .ok (.aload_n 0, 1) := by decide +kernel
theorem dX12_solution_1 : decode cX12_solution 1 = .ok (.iload_n 2, 1) := by decide +kernel
theorem dX12_solution_2 : decode cX12_solution 2 = .ok (.ifCond .lt 9, 3) := by decide +kernel
theorem dX12_solution_5 : decode cX12_solution 5 = .ok (.iload_n 2, 1) := by decide +kernel
theorem dX12_solution_6 : decode cX12_solution 6 = .ok (.bipush 7, 2) := by decide +kernel
theorem dX12_solution_8 : decode cX12_solution 8 = .ok (.if_icmp .le 7, 3) := by decide +kernel
theorem dX12_solution_11 : decode cX12_solution 11 = .ok (.iconst 1, 1) := by decide +kernel
theorem dX12_solution_12 : decode cX12_solution 12 = .ok (.goto 37, 3) := by decide +kernel
theorem dX12_solution_15 : decode cX12_solution 15 = .ok (.iload_n 1, 1) := by decide +kernel
theorem dX12_solution_16 : decode cX12_solution 16 = .ok (.ifCond .lt 28, 3) := by decide +kernel
theorem dX12_solution_19 : decode cX12_solution 19 = .ok (.iload_n 1, 1) := by decide +kernel
theorem dX12_solution_20 : decode cX12_solution 20 = .ok (.aload_n 0, 1) := by decide +kernel
theorem dX12_solution_21 : decode cX12_solution 21 = .ok (.getfield 313, 3) := by decide +kernel
theorem dX12_solution_24 : decode cX12_solution 24 = .ok (.if_icmp .ge 20, 3) := by decide +kernel
theorem dX12_solution_27 : decode cX12_solution 27 = .ok (.iload_n 1, 1) := by decide +kernel
theorem dX12_solution_28 : decode cX12_solution 28 = .ok (.bipush 100, 2) := by decide +kernel
theorem dX12_solution_30 : decode cX12_solution 30 = .ok (.if_icmp .ge 14, 3) := by decide +kernel
theorem dX12_solution_33 : decode cX12_solution 33 = .ok (.aload_n 0, 1) := by decide +kernel
theorem dX12_solution_34 : decode cX12_solution 34 = .ok (.getfield 316, 3) := by decide +kernel
theorem dX12_solution_37 : decode cX12_solution 37 = .ok (.iload_n 2, 1) := by decide +kernel
theorem dX12_solution_38 : decode cX12_solution 38 = .ok (.ishr, 1) := by decide +kernel
theorem dX12_solution_39 : decode cX12_solution 39 = .ok (.iconst 1, 1) := by decide +kernel
theorem dX12_solution_40 : decode cX12_solution 40 = .ok (.iand, 1) := by decide +kernel
theorem dX12_solution_41 : decode cX12_solution 41 = .ok (.ifCond .ne 7, 3) := by decide +kernel
theorem dX12_solution_44 : decode cX12_solution 44 = .ok (.iconst 2, 1) := by decide +kernel
theorem dX12_solution_45 : decode cX12_solution 45 = .ok (.goto 4, 3) := by decide +kernel
theorem dX12_solution_48 : decode cX12_solution 48 = .ok (.iconst 0, 1) := by decide +kernel
theorem dX12_solution_49 : decode cX12_solution 49 = .ok (.invokevirtual 136, 3) := by decide +kernel
theorem dX12_solution_52 : decode cX12_solution 52 = .ok (.ifCond .eq 5, 3) := by decide +kernel
theorem dX12_solution_55 : decode cX12_solution 55 = .ok (.iconst 0, 1) := by decide +kernel
theorem dX12_solution_56 : decode cX12_solution 56 = .ok (.ireturn, 1) := by decide +kernel
theorem dX12_solution_57 : decode cX12_solution 57 = .ok (.aload_n 0, 1) := by decide +kernel
theorem dX12_solution_58 : decode cX12_solution 58 = .ok (.getfield 127, 3) := by decide +kernel
theorem dX12_solution_61 : decode cX12_solution 61 = .ok (.bipush 8, 2) := by decide +kernel
theorem dX12_solution_63 : decode cX12_solution 63 = .ok (.iload_n 1, 1) := by decide +kernel
theorem dX12_solution_64 : decode cX12_solution 64 = .ok (.imul, 1) := by decide +kernel
theorem dX12_solution_65 : decode cX12_solution 65 = .ok (.iload_n 2, 1) := by decide +kernel
theorem dX12_solution_66 : decode cX12_solution 66 = .ok (.iadd, 1) := by decide +kernel
theorem dX12_solution_67 : decode cX12_solution 67 = .ok (.iaload, 1) := by decide +kernel
theorem dX12_solution_68 : decode cX12_solution 68 = .ok (.ireturn, 1) := by decide +kernel
theorem i9wsX12_solution_0 : ∀ w ∈ ([.fieldLink RX12 313 "FactKeeperModel" "toldMany" "I", .fieldLink RX12 316 "FactKeeperModel" "toldKnown" "I", .fieldLink RX12 127 "FactKeeperModel" "told" "[I", .methodLink RX12 136 yX12_fails, .instanceMethod yX12_fails, .selects RX12 yX12_fails yX12_fails, .initialized RX12, .code yX12_fails cX12_fails 2 (some .boolean), .fieldLink RX12 1 "FactKeeperModel" "thrown" "I"] : List Cond), w ∈ wsX12_solution := fun _ h => (List.mem_cons_of_mem _ (List.mem_append_left _ h))
theorem i9wsX12_solution_1 : ∀ w ∈ wsX120, w ∈ wsX12_solution := fun _ h => (List.mem_cons_of_mem _ (List.mem_append_right _ h))
set_option maxRecDepth 20000 in
theorem ggX12_solution_X12_fails : GoodIn wsX12_solution wsX12_fails := (gin_c (mem_at i9wsX12_solution_0 7 rfl) rfl (goodIn_app (gin_c (mem_at i9wsX12_solution_0 8 rfl) rfl gin_n) (goodIn_sub i9wsX12_solution_1 g9_16)))
set_option maxRecDepth 20000 in
theorem gX12_solution_X12_fails : GoodIn wsX12_solution (wsV RX12 136 RX12 yX12_fails wsX12_fails) := goodIn_app (gin_c (mem_at i9wsX12_solution_0 3 rfl) rfl (gin_c (mem_at i9wsX12_solution_0 4 rfl) rfl (gin_c (mem_at i9wsX12_solution_0 5 rfl) rfl (gin_c (mem_at i9wsX12_solution_0 6 rfl) rfl gin_n)))) ggX12_solution_X12_fails
set_option maxHeartbeats 4000000 in
set_option maxRecDepth 100000 in
theorem T_X12_solution (l : Launch) (hl : l.stackTraces = false) (D : va_G) (cA : Nat → ClassId) {l0 : Option Nat} {l1 : Int32} {l2 : Int32} {x : HS} {Q : Int32 → HS → Prop} {X : String → HS → Prop} (h : w_X12_solution l0 l1 l2 x Q X) : YI l yX12_solution wsX12_solution 1 21 D cA [.q l0, .i l1, .i l2] x Q X := by
  refine YI.of (cc := cX12_solution) (maxL := 3) (ret := (some .int)) hl (by decide) rfl rfl (fun g B fr => ?_)
  have o := B.o
  have hb := B.hb
  have hts := B.hts
  have hown : g.s.vm.findClass RX12 = some g.m.cls := B.hown
  have in12 : ∀ w ∈ u_ws RX12 TX12 57, w ∈ wsX12_solution := fun w h => (List.mem_cons_of_mem _ (List.mem_append_right _ h))
  unfold w_X12_solution at h
  show KW g 3 0 [(0, .q l0), (1, .i l1), (2, .i l2)] [] x
  refine k_aload_n o hb dX12_solution_0 rfl 0 rfl ?_
  refine k_iload_n o hb dX12_solution_1 rfl 2 rfl ?_
  refine wJoin_elim (M := fun K => ∀ (v3 : Int32) (x2 : HS), K v3 x2 → KW g 3 49 [(0, .q l0), (1, .i l1), (2, .i l2)] [.i v3, .q l0] x2) h ?_ (fun j1 hj1 h => ?_)
  · skip
    intro v3 x2 h
    refine k_run_i o (fun _ _ q => q) (k_runV (ci := 12) (rc := (RX12, TX12, 57)) o hb B.hml hown hts rfl (by decide) (T_X12_fails g.l o.hl g.D g.cA h.2) (cwV 1 hts gX12_solution_X12_fails rfl rfl rfl (by decide +kernel) ⟨yle B.hR1 rfl, yle B.hR2 rfl⟩) h.1 rfl rfl (Nat.le_of_ble_eq_true rfl) dX12_solution_49) (fun v5 x4 h => ?_)
    refine k_if_eq (tgt := 57) o hb dX12_solution_52 (by decide) h (fun h => ?_) (fun h => ?_)
    · skip
      refine k_aload_n o hb dX12_solution_57 rfl 0 rfl ?_
      refine k_getF (C := RX12) (T := TX12) (N := 57) o hb hts in12 hown rfl (by decide) 53 (by decide) rfl (hts (.fieldLink RX12 127 "FactKeeperModel" "told" "[I") (by decide +kernel)) (fun _ h9 => h9) dX12_solution_58 h (fun v6 h => ?_)
      refine k_bipush (v := 8) o hb dX12_solution_61 (by decide) ?_
      refine k_iload_n o hb dX12_solution_63 rfl 1 rfl ?_
      refine k_imul o hb dX12_solution_64 ?_
      refine k_iload_n o hb dX12_solution_65 rfl 2 rfl ?_
      refine k_iadd o hb dX12_solution_66 ?_
      refine k_iald o hb dX12_solution_67 h (fun v7 h => ?_)
      exact k_iret o hb B.hr fr dX12_solution_68 h
    · skip
      refine k_iconst (v := 0) o hb dX12_solution_55 (by decide) ?_
      exact k_iret o hb B.hr fr dX12_solution_56 h
  · skip
    refine wJoin_elim (M := fun K => ∀  (x9 : HS), K  x9 → KW g 3 11 [(0, .q l0), (1, .i l1), (2, .i l2)] [.q l0] x9) h ?_ (fun j8 hj8 h => ?_)
    · skip
      intro  x9 h
      refine k_iconst (v := 1) o hb dX12_solution_11 (by decide) ?_
      refine k_goto (tgt := 49) o hb dX12_solution_12 (by decide) ?_
      exact KW.sub [0, 1, 2] rfl (hj1 1 x9 h)
    · skip
      refine k_if_lt (tgt := 11) o hb dX12_solution_2 (by decide) h (fun h => ?_) (fun h => ?_)
      · skip
        exact KW.sub [0, 1, 2] rfl (hj8 x h)
      · skip
        refine k_iload_n o hb dX12_solution_5 rfl 2 rfl ?_
        refine k_bipush (v := 7) o hb dX12_solution_6 (by decide) ?_
        refine k_icmp_le (tgt := 15) o hb dX12_solution_8 (by decide) h (fun h => ?_) (fun h => ?_)
        · skip
          refine k_iload_n o hb dX12_solution_15 rfl 1 rfl ?_
          refine wJoin_elim (M := fun K => ∀  (x11 : HS), K  x11 → KW g 3 44 [(0, .q l0), (1, .i l1), (2, .i l2)] [.q l0] x11) h ?_ (fun j10 hj10 h => ?_)
          · skip
            intro  x11 h
            refine k_iconst (v := 2) o hb dX12_solution_44 (by decide) ?_
            refine k_goto (tgt := 49) o hb dX12_solution_45 (by decide) ?_
            exact KW.sub [0, 1, 2] rfl (hj1 2 x11 h)
          · skip
            refine k_if_lt (tgt := 44) o hb dX12_solution_16 (by decide) h (fun h => ?_) (fun h => ?_)
            · skip
              exact KW.sub [0, 1, 2] rfl (hj10 x h)
            · skip
              refine k_iload_n o hb dX12_solution_19 rfl 1 rfl ?_
              refine k_aload_n o hb dX12_solution_20 rfl 0 rfl ?_
              refine k_getI (C := RX12) (T := TX12) (N := 57) o hb hts in12 hown rfl (by decide) 55 (by decide) rfl (hts (.fieldLink RX12 313 "FactKeeperModel" "toldMany" "I") (by decide +kernel)) (fun _ h9 => h9) dX12_solution_21 h (fun v12 h => ?_)
              refine k_icmp_ge (tgt := 44) o hb dX12_solution_24 (by decide) h (fun h => ?_) (fun h => ?_)
              · skip
                exact KW.sub [0, 1, 2] rfl (hj10 x h)
              · skip
                refine k_iload_n o hb dX12_solution_27 rfl 1 rfl ?_
                refine k_bipush (v := 100) o hb dX12_solution_28 (by decide) ?_
                refine k_icmp_ge (tgt := 44) o hb dX12_solution_30 (by decide) h (fun h => ?_) (fun h => ?_)
                · skip
                  exact KW.sub [0, 1, 2] rfl (hj10 x h)
                · skip
                  refine k_aload_n o hb dX12_solution_33 rfl 0 rfl ?_
                  refine k_getI (C := RX12) (T := TX12) (N := 57) o hb hts in12 hown rfl (by decide) 56 (by decide) rfl (hts (.fieldLink RX12 316 "FactKeeperModel" "toldKnown" "I") (by decide +kernel)) (fun _ h9 => h9) dX12_solution_34 h (fun v13 h => ?_)
                  refine k_iload_n o hb dX12_solution_37 rfl 2 rfl ?_
                  refine k_ishr o hb dX12_solution_38 ?_
                  refine k_iconst (v := 1) o hb dX12_solution_39 (by decide) ?_
                  refine k_iand o hb dX12_solution_40 ?_
                  refine k_if_ne (tgt := 48) o hb dX12_solution_41 (by decide) h (fun h => ?_) (fun h => ?_)
                  · skip
                    exact KW.sub [0, 1, 2] rfl (hj10 x h)
                  · skip
                    refine k_iconst (v := 0) o hb dX12_solution_48 (by decide) ?_
                    exact KW.sub [0, 1, 2] rfl (hj1 0 x h)
        · skip
          exact KW.sub [0, 1, 2] rfl (hj8 x h)
theorem dX12_count_0 : decode cX12_count 0 = .ok (.aload_n 0, 1) := by decide +kernel
theorem dX12_count_1 : decode cX12_count 1 = .ok (.iload_n 1, 1) := by decide +kernel
theorem dX12_count_2 : decode cX12_count 2 = .ok (.ifCond .lt 21, 3) := by decide +kernel
theorem dX12_count_5 : decode cX12_count 5 = .ok (.iload_n 1, 1) := by decide +kernel
theorem dX12_count_6 : decode cX12_count 6 = .ok (.bipush 9, 2) := by decide +kernel
theorem dX12_count_8 : decode cX12_count 8 = .ok (.if_icmp .le 9, 3) := by decide +kernel
theorem dX12_count_11 : decode cX12_count 11 = .ok (.iload_n 1, 1) := by decide +kernel
theorem dX12_count_12 : decode cX12_count 12 = .ok (.bipush 10, 2) := by decide +kernel
theorem dX12_count_14 : decode cX12_count 14 = .ok (.if_icmp .lt 9, 3) := by decide +kernel
theorem dX12_count_17 : decode cX12_count 17 = .ok (.iload_n 1, 1) := by decide +kernel
theorem dX12_count_18 : decode cX12_count 18 = .ok (.bipush 21, 2) := by decide +kernel
theorem dX12_count_20 : decode cX12_count 20 = .ok (.if_icmp .le 7, 3) := by decide +kernel
theorem dX12_count_23 : decode cX12_count 23 = .ok (.iconst 1, 1) := by decide +kernel
theorem dX12_count_24 : decode cX12_count 24 = .ok (.goto 4, 3) := by decide +kernel
theorem dX12_count_27 : decode cX12_count 27 = .ok (.iconst 0, 1) := by decide +kernel
theorem dX12_count_28 : decode cX12_count 28 = .ok (.invokevirtual 136, 3) := by decide +kernel
theorem dX12_count_31 : decode cX12_count 31 = .ok (.ifCond .eq 5, 3) := by decide +kernel
theorem dX12_count_34 : decode cX12_count 34 = .ok (.iconst 0, 1) := by decide +kernel
theorem dX12_count_35 : decode cX12_count 35 = .ok (.ireturn, 1) := by decide +kernel
theorem dX12_count_36 : decode cX12_count 36 = .ok (.iconst 0, 1) := by decide +kernel
theorem dX12_count_37 : decode cX12_count 37 = .ok (.istore_n 2, 1) := by decide +kernel
theorem dX12_count_38 : decode cX12_count 38 = .ok (.iload_n 1, 1) := by decide +kernel
theorem dX12_count_39 : decode cX12_count 39 = .ok (.tableswitch 148 0 9 #[53, 58, 63, 68, 73, 78, 83, 88, 116, 121], 53) := by decide +kernel
theorem dX12_count_92 : decode cX12_count 92 = .ok (.aload_n 0, 1) := by decide +kernel
theorem dX12_count_93 : decode cX12_count 93 = .ok (.getfield 133, 3) := by decide +kernel
theorem dX12_count_96 : decode cX12_count 96 = .ok (.ireturn, 1) := by decide +kernel
theorem dX12_count_97 : decode cX12_count 97 = .ok (.aload_n 0, 1) := by decide +kernel
theorem dX12_count_98 : decode cX12_count 98 = .ok (.getfield 144, 3) := by decide +kernel
theorem dX12_count_101 : decode cX12_count 101 = .ok (.ireturn, 1) := by decide +kernel
theorem dX12_count_102 : decode cX12_count 102 = .ok (.aload_n 0, 1) := by decide +kernel
theorem dX12_count_103 : decode cX12_count 103 = .ok (.getfield 150, 3) := by decide +kernel
theorem dX12_count_106 : decode cX12_count 106 = .ok (.ireturn, 1) := by decide +kernel
theorem dX12_count_107 : decode cX12_count 107 = .ok (.aload_n 0, 1) := by decide +kernel
theorem dX12_count_108 : decode cX12_count 108 = .ok (.getfield 187, 3) := by decide +kernel
theorem dX12_count_111 : decode cX12_count 111 = .ok (.ireturn, 1) := by decide +kernel
theorem dX12_count_112 : decode cX12_count 112 = .ok (.aload_n 0, 1) := by decide +kernel
theorem dX12_count_113 : decode cX12_count 113 = .ok (.getfield 147, 3) := by decide +kernel
theorem dX12_count_116 : decode cX12_count 116 = .ok (.ireturn, 1) := by decide +kernel
theorem dX12_count_117 : decode cX12_count 117 = .ok (.aload_n 0, 1) := by decide +kernel
theorem dX12_count_118 : decode cX12_count 118 = .ok (.getfield 168, 3) := by decide +kernel
theorem dX12_count_121 : decode cX12_count 121 = .ok (.ireturn, 1) := by decide +kernel
theorem dX12_count_122 : decode cX12_count 122 = .ok (.aload_n 0, 1) := by decide +kernel
theorem dX12_count_123 : decode cX12_count 123 = .ok (.getfield 100, 3) := by decide +kernel
theorem dX12_count_126 : decode cX12_count 126 = .ok (.ireturn, 1) := by decide +kernel
theorem dX12_count_127 : decode cX12_count 127 = .ok (.iconst 0, 1) := by decide +kernel
theorem dX12_count_128 : decode cX12_count 128 = .ok (.istore_n 3, 1) := by decide +kernel
theorem dX12_count_129 : decode cX12_count 129 = .ok (.iload_n 3, 1) := by decide +kernel
theorem dX12_count_130 : decode cX12_count 130 = .ok (.bipush 10, 2) := by decide +kernel
theorem dX12_count_132 : decode cX12_count 132 = .ok (.if_icmp .ge 21, 3) := by decide +kernel
theorem dX12_count_135 : decode cX12_count 135 = .ok (.aload_n 0, 1) := by decide +kernel
theorem dX12_count_136 : decode cX12_count 136 = .ok (.getfield 73, 3) := by decide +kernel
theorem dX12_count_139 : decode cX12_count 139 = .ok (.iload_n 3, 1) := by decide +kernel
theorem dX12_count_140 : decode cX12_count 140 = .ok (.baload, 1) := by decide +kernel
theorem dX12_count_141 : decode cX12_count 141 = .ok (.ifCond .eq 6, 3) := by decide +kernel
theorem dX12_count_144 : decode cX12_count 144 = .ok (.iinc 2 1, 3) := by decide +kernel
theorem dX12_count_147 : decode cX12_count 147 = .ok (.iinc 3 1, 3) := by decide +kernel
theorem dX12_count_150 : decode cX12_count 150 = .ok (.goto (-21), 3) := by decide +kernel
theorem dX12_count_153 : decode cX12_count 153 = .ok (.iload_n 2, 1) := by decide +kernel
theorem dX12_count_154 : decode cX12_count 154 = .ok (.ireturn, 1) := by decide +kernel
theorem dX12_count_155 : decode cX12_count 155 = .ok (.aload_n 0, 1) := by decide +kernel
theorem dX12_count_156 : decode cX12_count 156 = .ok (.getfield 193, 3) := by decide +kernel
theorem dX12_count_159 : decode cX12_count 159 = .ok (.ireturn, 1) := by decide +kernel
theorem dX12_count_160 : decode cX12_count 160 = .ok (.iconst 0, 1) := by decide +kernel
theorem dX12_count_161 : decode cX12_count 161 = .ok (.istore_n 3, 1) := by decide +kernel
theorem dX12_count_162 : decode cX12_count 162 = .ok (.iload_n 3, 1) := by decide +kernel
theorem dX12_count_163 : decode cX12_count 163 = .ok (.bipush 8, 2) := by decide +kernel
theorem dX12_count_165 : decode cX12_count 165 = .ok (.if_icmp .ge 20, 3) := by decide +kernel
theorem dX12_count_168 : decode cX12_count 168 = .ok (.iload_n 2, 1) := by decide +kernel
theorem dX12_count_169 : decode cX12_count 169 = .ok (.aload_n 0, 1) := by decide +kernel
theorem dX12_count_170 : decode cX12_count 170 = .ok (.getfield 316, 3) := by decide +kernel
theorem dX12_count_173 : decode cX12_count 173 = .ok (.iload_n 3, 1) := by decide +kernel
theorem dX12_count_174 : decode cX12_count 174 = .ok (.ishr, 1) := by decide +kernel
theorem dX12_count_175 : decode cX12_count 175 = .ok (.iconst 1, 1) := by decide +kernel
theorem dX12_count_176 : decode cX12_count 176 = .ok (.iand, 1) := by decide +kernel
theorem dX12_count_177 : decode cX12_count 177 = .ok (.iadd, 1) := by decide +kernel
theorem dX12_count_178 : decode cX12_count 178 = .ok (.istore_n 2, 1) := by decide +kernel
theorem dX12_count_179 : decode cX12_count 179 = .ok (.iinc 3 1, 3) := by decide +kernel
theorem dX12_count_182 : decode cX12_count 182 = .ok (.goto (-20), 3) := by decide +kernel
theorem dX12_count_185 : decode cX12_count 185 = .ok (.iload_n 2, 1) := by decide +kernel
theorem dX12_count_186 : decode cX12_count 186 = .ok (.ireturn, 1) := by decide +kernel
theorem dX12_count_187 : decode cX12_count 187 = .ok (.aload_n 0, 1) := by decide +kernel
theorem dX12_count_188 : decode cX12_count 188 = .ok (.iload_n 1, 1) := by decide +kernel
theorem dX12_count_189 : decode cX12_count 189 = .ok (.bipush 10, 2) := by decide +kernel
theorem dX12_count_191 : decode cX12_count 191 = .ok (.isub, 1) := by decide +kernel
theorem dX12_count_192 : decode cX12_count 192 = .ok (.invokevirtual 153, 3) := by decide +kernel
theorem dX12_count_195 : decode cX12_count 195 = .ok (.ifCond .ne 5, 3) := by decide +kernel
theorem dX12_count_198 : decode cX12_count 198 = .ok (.iconst (-1), 1) := by decide +kernel
theorem dX12_count_199 : decode cX12_count 199 = .ok (.ireturn, 1) := by decide +kernel
theorem dX12_count_200 : decode cX12_count 200 = .ok (.aload_n 0, 1) := by decide +kernel
theorem dX12_count_201 : decode cX12_count 201 = .ok (.getfield 30, 3) := by decide +kernel
theorem dX12_count_204 : decode cX12_count 204 = .ok (.iload_n 1, 1) := by decide +kernel
theorem dX12_count_205 : decode cX12_count 205 = .ok (.bipush 10, 2) := by decide +kernel
theorem dX12_count_207 : decode cX12_count 207 = .ok (.isub, 1) := by decide +kernel
theorem dX12_count_208 : decode cX12_count 208 = .ok (.iaload, 1) := by decide +kernel
theorem dX12_count_209 : decode cX12_count 209 = .ok (.istore_n 3, 1) := by decide +kernel
theorem dX12_count_210 : decode cX12_count 210 = .ok (.iload_n 3, 1) := by decide +kernel
theorem dX12_count_211 : decode cX12_count 211 = .ok (.ifCond .lt 28, 3) := by decide +kernel
theorem dX12_count_214 : decode cX12_count 214 = .ok (.aload_n 0, 1) := by decide +kernel
theorem dX12_count_215 : decode cX12_count 215 = .ok (.iload_n 3, 1) := by decide +kernel
theorem dX12_count_216 : decode cX12_count 216 = .ok (.aload_n 0, 1) := by decide +kernel
theorem dX12_count_217 : decode cX12_count 217 = .ok (.getfield 150, 3) := by decide +kernel
theorem dX12_count_220 : decode cX12_count 220 = .ok (.invokevirtual 156, 3) := by decide +kernel
theorem dX12_count_223 : decode cX12_count 223 = .ok (.ifCond .eq 6, 3) := by decide +kernel
theorem dX12_count_226 : decode cX12_count 226 = .ok (.iinc 2 1, 3) := by decide +kernel
theorem dX12_count_229 : decode cX12_count 229 = .ok (.aload_n 0, 1) := by decide +kernel
theorem dX12_count_230 : decode cX12_count 230 = .ok (.getfield 61, 3) := by decide +kernel
theorem dX12_count_233 : decode cX12_count 233 = .ok (.iload_n 3, 1) := by decide +kernel
theorem dX12_count_234 : decode cX12_count 234 = .ok (.iaload, 1) := by decide +kernel
theorem dX12_count_235 : decode cX12_count 235 = .ok (.istore_n 3, 1) := by decide +kernel
theorem dX12_count_236 : decode cX12_count 236 = .ok (.goto (-26), 3) := by decide +kernel
theorem dX12_count_239 : decode cX12_count 239 = .ok (.iload_n 2, 1) := by decide +kernel
theorem dX12_count_240 : decode cX12_count 240 = .ok (.ireturn, 1) := by decide +kernel
theorem i9wsX12_count_0 : ∀ w ∈ wsX12_count_r1, w ∈ wsX12_count := fun _ h => (List.mem_cons_of_mem _ (List.mem_append_left _ (List.mem_append_left _ h)))
theorem i9wsX12_count_2 : ∀ w ∈ wsX120, w ∈ wsX12_count := fun _ h => (List.mem_cons_of_mem _ (List.mem_append_right _ h))
set_option maxRecDepth 20000 in
theorem ggX12_count_X12_fails : GoodIn wsX12_count wsX12_fails := (gin_c (mem_at i9wsX12_count_0 16 rfl) rfl (goodIn_app (gin_c (mem_at i9wsX12_count_0 17 rfl) rfl gin_n) (goodIn_sub i9wsX12_count_2 g9_16)))
set_option maxRecDepth 20000 in
theorem gX12_count_X12_fails : GoodIn wsX12_count (wsV RX12 136 RX12 yX12_fails wsX12_fails) := goodIn_app (gin_c (mem_at i9wsX12_count_0 12 rfl) rfl (gin_c (mem_at i9wsX12_count_0 13 rfl) rfl (gin_c (mem_at i9wsX12_count_0 14 rfl) rfl (gin_c (mem_at i9wsX12_count_0 15 rfl) rfl gin_n)))) ggX12_count_X12_fails
set_option maxRecDepth 20000 in
theorem ggX12_count_X12_isTable : GoodIn wsX12_count wsX12_isTable := (gin_c (mem_at i9wsX12_count_0 21 rfl) rfl (goodIn_app (gin_c (mem_at i9wsX12_count_0 1 rfl) rfl gin_n) (goodIn_sub i9wsX12_count_2 g9_16)))
set_option maxRecDepth 20000 in
theorem gX12_count_X12_isTable : GoodIn wsX12_count (wsV RX12 153 RX12 yX12_isTable wsX12_isTable) := goodIn_app (gin_c (mem_at i9wsX12_count_0 18 rfl) rfl (gin_c (mem_at i9wsX12_count_0 19 rfl) rfl (gin_c (mem_at i9wsX12_count_0 20 rfl) rfl (gin_c (mem_at i9wsX12_count_0 15 rfl) rfl gin_n)))) ggX12_count_X12_isTable
theorem i9wsX12_count_1 : ∀ w ∈ wsX12_count_r2, w ∈ wsX12_count := fun _ h => (List.mem_cons_of_mem _ (List.mem_append_left _ (List.mem_append_right _ h)))
set_option maxRecDepth 20000 in
theorem ggX12_count_X12_isThere : GoodIn wsX12_count wsX12_isThere := (gin_c (mem_at i9wsX12_count_1 1 rfl) rfl (goodIn_app (gin_c (mem_at i9wsX12_count_1 2 rfl) rfl (gin_c (mem_at i9wsX12_count_1 3 rfl) rfl gin_n)) (goodIn_sub i9wsX12_count_2 g9_16)))
set_option maxRecDepth 20000 in
theorem gX12_count_X12_isThere : GoodIn wsX12_count (wsV RX12 156 RX12 yX12_isThere wsX12_isThere) := goodIn_app (gin_c (mem_at i9wsX12_count_0 22 rfl) rfl (gin_c (mem_at i9wsX12_count_0 23 rfl) rfl (gin_c (mem_at i9wsX12_count_1 0 rfl) rfl (gin_c (mem_at i9wsX12_count_0 15 rfl) rfl gin_n)))) ggX12_count_X12_isThere
set_option maxHeartbeats 4000000 in
set_option maxRecDepth 100000 in
theorem T_X12_count (l : Launch) (hl : l.stackTraces = false) (D : va_G) (cA : Nat → ClassId) {l0 : Option Nat} {l1 : Int32} {x : HS} {Q : Int32 → HS → Prop} {X : String → HS → Prop} (h : w_X12_count l0 l1 x Q X) : YI l yX12_count wsX12_count 1 22 D cA [.q l0, .i l1] x Q X := by
  refine YI.of (cc := cX12_count) (maxL := 4) (ret := (some .int)) hl (by decide) rfl rfl (fun g B fr => ?_)
  have o := B.o
  have hb := B.hb
  have hts := B.hts
  have hown : g.s.vm.findClass RX12 = some g.m.cls := B.hown
  have in12 : ∀ w ∈ u_ws RX12 TX12 57, w ∈ wsX12_count := fun w h => (List.mem_cons_of_mem _ (List.mem_append_right _ h))
  unfold w_X12_count at h
  show KW g 4 0 [(0, .q l0), (1, .i l1)] [] x
  refine k_aload_n o hb dX12_count_0 rfl 0 rfl ?_
  refine k_iload_n o hb dX12_count_1 rfl 1 rfl ?_
  refine wJoin_elim (M := fun K => ∀ (v3 : Int32) (x2 : HS), K v3 x2 → KW g 4 28 [(0, .q l0), (1, .i l1)] [.i v3, .q l0] x2) h ?_ (fun j1 hj1 h => ?_)
  · skip
    intro v3 x2 h
    refine k_run_i o (fun _ _ q => q) (k_runV (ci := 12) (rc := (RX12, TX12, 57)) o hb B.hml hown hts rfl (by decide) (T_X12_fails g.l o.hl g.D g.cA h.2) (cwV 1 hts gX12_count_X12_fails rfl rfl rfl (by decide +kernel) ⟨yle B.hR1 rfl, yle B.hR2 rfl⟩) h.1 rfl rfl (Nat.le_of_ble_eq_true rfl) dX12_count_28) (fun v5 x4 h => ?_)
    refine k_if_eq (tgt := 36) o hb dX12_count_31 (by decide) h (fun h => ?_) (fun h => ?_)
    · skip
      refine k_iconst (v := 0) o hb dX12_count_36 (by decide) ?_
      refine k_istore_n o hb dX12_count_37 rfl rfl ?_
      refine k_iload_n o hb dX12_count_38 rfl 2 rfl ?_
      rcases Decidable.em (l1 = 0) with c0 | c0
      · skip
        have h := h.1 c0
        refine k_tableIn (w := 0) (off := 53) (tgt := 92) o hb dX12_count_39 c0 (by decide) (by decide) (by decide) (by decide) ?_
        refine k_aload_n o hb dX12_count_92 rfl 1 rfl ?_
        refine k_getI (C := RX12) (T := TX12) (N := 57) o hb hts in12 hown rfl (by decide) 2 (by decide) rfl (hts (.fieldLink RX12 133 "FactKeeperModel" "taped" "I") (by decide +kernel)) (fun _ h9 => h9) dX12_count_93 h (fun v6 h => ?_)
        exact k_iret o hb B.hr fr dX12_count_96 h
      · skip
        have h := h.2 c0
        rcases Decidable.em (l1 = 1) with c1 | c1
        · skip
          have h := h.1 c1
          refine k_tableIn (w := 1) (off := 58) (tgt := 97) o hb dX12_count_39 c1 (by decide) (by decide) (by decide) (by decide) ?_
          refine k_aload_n o hb dX12_count_97 rfl 1 rfl ?_
          refine k_getI (C := RX12) (T := TX12) (N := 57) o hb hts in12 hown rfl (by decide) 10 (by decide) rfl (hts (.fieldLink RX12 144 "FactKeeperModel" "tables" "I") (by decide +kernel)) (fun _ h9 => h9) dX12_count_98 h (fun v7 h => ?_)
          exact k_iret o hb B.hr fr dX12_count_101 h
        · skip
          have h := h.2 c1
          rcases Decidable.em (l1 = 2) with c2 | c2
          · skip
            have h := h.1 c2
            refine k_tableIn (w := 2) (off := 63) (tgt := 102) o hb dX12_count_39 c2 (by decide) (by decide) (by decide) (by decide) ?_
            refine k_aload_n o hb dX12_count_102 rfl 1 rfl ?_
            refine k_getI (C := RX12) (T := TX12) (N := 57) o hb hts in12 hown rfl (by decide) 22 (by decide) rfl (hts (.fieldLink RX12 150 "FactKeeperModel" "time" "I") (by decide +kernel)) (fun _ h9 => h9) dX12_count_103 h (fun v8 h => ?_)
            exact k_iret o hb B.hr fr dX12_count_106 h
          · skip
            have h := h.2 c2
            rcases Decidable.em (l1 = 3) with c3 | c3
            · skip
              have h := h.1 c3
              refine k_tableIn (w := 3) (off := 68) (tgt := 107) o hb dX12_count_39 c3 (by decide) (by decide) (by decide) (by decide) ?_
              refine k_aload_n o hb dX12_count_107 rfl 1 rfl ?_
              refine k_getI (C := RX12) (T := TX12) (N := 57) o hb hts in12 hown rfl (by decide) 20 (by decide) rfl (hts (.fieldLink RX12 187 "FactKeeperModel" "kept" "I") (by decide +kernel)) (fun _ h9 => h9) dX12_count_108 h (fun v9 h => ?_)
              exact k_iret o hb B.hr fr dX12_count_111 h
            · skip
              have h := h.2 c3
              rcases Decidable.em (l1 = 4) with c4 | c4
              · skip
                have h := h.1 c4
                refine k_tableIn (w := 4) (off := 73) (tgt := 112) o hb dX12_count_39 c4 (by decide) (by decide) (by decide) (by decide) ?_
                refine k_aload_n o hb dX12_count_112 rfl 1 rfl ?_
                refine k_getI (C := RX12) (T := TX12) (N := 57) o hb hts in12 hown rfl (by decide) 23 (by decide) rfl (hts (.fieldLink RX12 147 "FactKeeperModel" "horizon" "I") (by decide +kernel)) (fun _ h9 => h9) dX12_count_113 h (fun v10 h => ?_)
                exact k_iret o hb B.hr fr dX12_count_116 h
              · skip
                have h := h.2 c4
                rcases Decidable.em (l1 = 5) with c5 | c5
                · skip
                  have h := h.1 c5
                  refine k_tableIn (w := 5) (off := 78) (tgt := 117) o hb dX12_count_39 c5 (by decide) (by decide) (by decide) (by decide) ?_
                  refine k_aload_n o hb dX12_count_117 rfl 1 rfl ?_
                  refine k_getI (C := RX12) (T := TX12) (N := 57) o hb hts in12 hown rfl (by decide) 38 (by decide) rfl (hts (.fieldLink RX12 168 "FactKeeperModel" "looked" "I") (by decide +kernel)) (fun _ h9 => h9) dX12_count_118 h (fun v11 h => ?_)
                  exact k_iret o hb B.hr fr dX12_count_121 h
                · skip
                  have h := h.2 c5
                  rcases Decidable.em (l1 = 6) with c6 | c6
                  · skip
                    have h := h.1 c6
                    refine k_tableIn (w := 6) (off := 83) (tgt := 122) o hb dX12_count_39 c6 (by decide) (by decide) (by decide) (by decide) ?_
                    refine k_aload_n o hb dX12_count_122 rfl 1 rfl ?_
                    refine k_getI (C := RX12) (T := TX12) (N := 57) o hb hts in12 hown rfl (by decide) 42 (by decide) rfl (hts (.fieldLink RX12 100 "FactKeeperModel" "broken" "I") (by decide +kernel)) (fun _ h9 => h9) dX12_count_123 h (fun v12 h => ?_)
                    exact k_iret o hb B.hr fr dX12_count_126 h
                  · skip
                    have h := h.2 c6
                    rcases Decidable.em (l1 = 7) with c7 | c7
                    · skip
                      have h := h.1 c7
                      refine k_tableIn (w := 7) (off := 88) (tgt := 127) o hb dX12_count_39 c7 (by decide) (by decide) (by decide) (by decide) ?_
                      refine k_iconst (v := 0) o hb dX12_count_127 (by decide) ?_
                      refine k_istore_n o hb dX12_count_128 rfl rfl ?_
                      refine KW.sub [2, 1, 0] rfl ?_
                      refine wLoop_elim (M := fun (v16 : Int32 × Int32) (x15 : HS) => KW g 4 129 [(0, .q l0), (2, .i v16.1), (3, .i v16.2)] [] x15) h ?_
                      intro v16 x15 again13 ih14 h
                      refine k_iload_n o hb dX12_count_129 rfl 2 rfl ?_
                      refine k_bipush (v := 10) o hb dX12_count_130 (by decide) ?_
                      refine k_icmp_ge (tgt := 153) o hb dX12_count_132 (by decide) h (fun h => ?_) (fun h => ?_)
                      · skip
                        refine k_iload_n o hb dX12_count_153 rfl 1 rfl ?_
                        exact k_iret o hb B.hr fr dX12_count_154 h
                      · skip
                        refine k_aload_n o hb dX12_count_135 rfl 0 rfl ?_
                        refine k_getF (C := RX12) (T := TX12) (N := 57) o hb hts in12 hown rfl (by decide) 28 (by decide) rfl (hts (.fieldLink RX12 73 "FactKeeperModel" "isOpen" "[Z") (by decide +kernel)) (fun _ h9 => h9) dX12_count_136 h (fun v17 h => ?_)
                        refine k_iload_n o hb dX12_count_139 rfl 2 rfl ?_
                        refine k_zald o hb dX12_count_140 h (fun v18 h => ?_)
                        refine wJoin_elim (M := fun K => ∀ (v21 : Int32) (x20 : HS), K v21 x20 → KW g 4 147 [(0, .q l0), (2, .i v21), (3, .i v16.2)] [] x20) h ?_ (fun j19 hj19 h => ?_)
                        · skip
                          intro v21 x20 h
                          refine k_iinc (w := 1) o hb dX12_count_147 2 rfl (by decide) rfl ?_
                          refine k_goto (tgt := 129) o hb dX12_count_150 (by decide) ?_
                          exact KW.sub [1, 2, 0] rfl (ih14 (v21, (v16.2 + 1)) x20 h)
                        · skip
                          refine k_if_eq (tgt := 147) o hb dX12_count_141 (by decide) h (fun h => ?_) (fun h => ?_)
                          · skip
                            exact KW.sub [0, 1, 2] rfl (hj19 v16.1 x15 h)
                          · skip
                            refine k_iinc (w := 1) o hb dX12_count_144 1 rfl (by decide) rfl ?_
                            exact KW.sub [1, 0, 2] rfl (hj19 (v16.1 + 1) x15 h)
                    · skip
                      have h := h.2 c7
                      rcases Decidable.em (l1 = 8) with c8 | c8
                      · skip
                        have h := h.1 c8
                        refine k_tableIn (w := 8) (off := 116) (tgt := 155) o hb dX12_count_39 c8 (by decide) (by decide) (by decide) (by decide) ?_
                        refine k_aload_n o hb dX12_count_155 rfl 1 rfl ?_
                        refine k_getI (C := RX12) (T := TX12) (N := 57) o hb hts in12 hown rfl (by decide) 27 (by decide) rfl (hts (.fieldLink RX12 193 "FactKeeperModel" "marks" "I") (by decide +kernel)) (fun _ h9 => h9) dX12_count_156 h (fun v22 h => ?_)
                        exact k_iret o hb B.hr fr dX12_count_159 h
                      · skip
                        have h := h.2 c8
                        rcases Decidable.em (l1 = 9) with c9 | c9
                        · skip
                          have h := h.1 c9
                          refine k_tableIn (w := 9) (off := 121) (tgt := 160) o hb dX12_count_39 c9 (by decide) (by decide) (by decide) (by decide) ?_
                          refine k_iconst (v := 0) o hb dX12_count_160 (by decide) ?_
                          refine k_istore_n o hb dX12_count_161 rfl rfl ?_
                          refine KW.sub [2, 1, 0] rfl ?_
                          refine wLoop_elim (M := fun (v26 : Int32 × Int32) (x25 : HS) => KW g 4 162 [(0, .q l0), (2, .i v26.1), (3, .i v26.2)] [] x25) h ?_
                          intro v26 x25 again23 ih24 h
                          refine k_iload_n o hb dX12_count_162 rfl 2 rfl ?_
                          refine k_bipush (v := 8) o hb dX12_count_163 (by decide) ?_
                          refine k_icmp_ge (tgt := 185) o hb dX12_count_165 (by decide) h (fun h => ?_) (fun h => ?_)
                          · skip
                            refine k_iload_n o hb dX12_count_185 rfl 1 rfl ?_
                            exact k_iret o hb B.hr fr dX12_count_186 h
                          · skip
                            refine k_iload_n o hb dX12_count_168 rfl 1 rfl ?_
                            refine k_aload_n o hb dX12_count_169 rfl 0 rfl ?_
                            refine k_getI (C := RX12) (T := TX12) (N := 57) o hb hts in12 hown rfl (by decide) 56 (by decide) rfl (hts (.fieldLink RX12 316 "FactKeeperModel" "toldKnown" "I") (by decide +kernel)) (fun _ h9 => h9) dX12_count_170 h (fun v27 h => ?_)
                            refine k_iload_n o hb dX12_count_173 rfl 2 rfl ?_
                            refine k_ishr o hb dX12_count_174 ?_
                            refine k_iconst (v := 1) o hb dX12_count_175 (by decide) ?_
                            refine k_iand o hb dX12_count_176 ?_
                            refine k_iadd o hb dX12_count_177 ?_
                            refine k_istore_n o hb dX12_count_178 rfl rfl ?_
                            refine k_iinc (w := 1) o hb dX12_count_179 2 rfl (by decide) rfl ?_
                            refine k_goto (tgt := 162) o hb dX12_count_182 (by decide) ?_
                            exact KW.sub [2, 1, 0] rfl (ih24 ((v26.1 + ((v27 >>> (v26.2 &&& 31)) &&& 1)), (v26.2 + 1)) x25 h)
                        · skip
                          have h := h.2 c9
                          refine k_tableOut (tgt := 187) o hb dX12_count_39 (by have e0 := lv_neT (a := 0) c0 (by decide); have e1 := lv_neT (a := 1) c1 (by decide); have e2 := lv_neT (a := 2) c2 (by decide); have e3 := lv_neT (a := 3) c3 (by decide); have e4 := lv_neT (a := 4) c4 (by decide); have e5 := lv_neT (a := 5) c5 (by decide); have e6 := lv_neT (a := 6) c6 (by decide); have e7 := lv_neT (a := 7) c7 (by decide); have e8 := lv_neT (a := 8) c8 (by decide); have e9 := lv_neT (a := 9) c9 (by decide); omega) (by decide) ?_
                          refine k_aload_n o hb dX12_count_187 rfl 1 rfl ?_
                          refine k_iload_n o hb dX12_count_188 rfl 2 rfl ?_
                          refine k_bipush (v := 10) o hb dX12_count_189 (by decide) ?_
                          refine k_isub o hb dX12_count_191 ?_
                          refine k_run_i o (fun _ _ q => q) (k_runV (ci := 12) (rc := (RX12, TX12, 57)) o hb B.hml hown hts rfl (by decide) (T_X12_isTable g.l o.hl g.D g.cA h.2) (cwV 1 hts gX12_count_X12_isTable rfl rfl rfl (by decide +kernel) ⟨yle B.hR1 rfl, yle B.hR2 rfl⟩) h.1 rfl rfl (Nat.le_of_ble_eq_true rfl) dX12_count_192) (fun v29 x28 h => ?_)
                          refine k_if_ne (tgt := 200) o hb dX12_count_195 (by decide) h (fun h => ?_) (fun h => ?_)
                          · skip
                            refine k_iconst (v := (-1)) o hb dX12_count_198 (by decide) ?_
                            exact k_iret o hb B.hr fr dX12_count_199 h
                          · skip
                            refine k_aload_n o hb dX12_count_200 rfl 1 rfl ?_
                            refine k_getF (C := RX12) (T := TX12) (N := 57) o hb hts in12 hown rfl (by decide) 7 (by decide) rfl (hts (.fieldLink RX12 30 "FactKeeperModel" "first" "[I") (by decide +kernel)) (fun _ h9 => h9) dX12_count_201 h (fun v30 h => ?_)
                            refine k_iload_n o hb dX12_count_204 rfl 2 rfl ?_
                            refine k_bipush (v := 10) o hb dX12_count_205 (by decide) ?_
                            refine k_isub o hb dX12_count_207 ?_
                            refine k_iald o hb dX12_count_208 h (fun v31 h => ?_)
                            refine k_istore_n o hb dX12_count_209 rfl rfl ?_
                            refine KW.sub [2, 1, 0] rfl ?_
                            refine wLoop_elim (M := fun (v35 : Int32 × Int32) (x34 : HS) => KW g 4 210 [(0, .q l0), (2, .i v35.1), (3, .i v35.2)] [] x34) h ?_
                            intro v35 x34 again32 ih33 h
                            refine k_iload_n o hb dX12_count_210 rfl 2 rfl ?_
                            refine k_if_lt (tgt := 239) o hb dX12_count_211 (by decide) h (fun h => ?_) (fun h => ?_)
                            · skip
                              refine k_iload_n o hb dX12_count_239 rfl 1 rfl ?_
                              exact k_iret o hb B.hr fr dX12_count_240 h
                            · skip
                              refine k_aload_n o hb dX12_count_214 rfl 0 rfl ?_
                              refine k_iload_n o hb dX12_count_215 rfl 2 rfl ?_
                              refine k_aload_n o hb dX12_count_216 rfl 0 rfl ?_
                              refine k_getI (C := RX12) (T := TX12) (N := 57) o hb hts in12 hown rfl (by decide) 22 (by decide) rfl (hts (.fieldLink RX12 150 "FactKeeperModel" "time" "I") (by decide +kernel)) (fun _ h9 => h9) dX12_count_217 h (fun v36 h => ?_)
                              refine k_run_i o (fun _ _ q => q) (k_runV (ci := 12) (rc := (RX12, TX12, 57)) o hb B.hml hown hts rfl (by decide) (T_X12_isThere g.l o.hl g.D g.cA h.2) (cwV 2 hts gX12_count_X12_isThere rfl rfl rfl (by decide +kernel) ⟨yle B.hR1 rfl, yle B.hR2 rfl⟩) h.1 rfl rfl (Nat.le_of_ble_eq_true rfl) dX12_count_220) (fun v38 x37 h => ?_)
                              refine wJoin_elim (M := fun K => ∀ (v41 : Int32) (x40 : HS), K v41 x40 → KW g 4 229 [(0, .q l0), (2, .i v41), (3, .i v35.2)] [] x40) h ?_ (fun j39 hj39 h => ?_)
                              · skip
                                intro v41 x40 h
                                refine k_aload_n o hb dX12_count_229 rfl 0 rfl ?_
                                refine k_getF (C := RX12) (T := TX12) (N := 57) o hb hts in12 hown rfl (by decide) 18 (by decide) rfl (hts (.fieldLink RX12 61 "FactKeeperModel" "behind" "[I") (by decide +kernel)) (fun _ h9 => h9) dX12_count_230 h (fun v42 h => ?_)
                                refine k_iload_n o hb dX12_count_233 rfl 2 rfl ?_
                                refine k_iald o hb dX12_count_234 h (fun v43 h => ?_)
                                refine k_istore_n o hb dX12_count_235 rfl rfl ?_
                                refine k_goto (tgt := 210) o hb dX12_count_236 (by decide) ?_
                                exact KW.sub [1, 2, 0] rfl (ih33 (v41, v43) x40 h)
                              · skip
                                refine k_if_eq (tgt := 229) o hb dX12_count_223 (by decide) h (fun h => ?_) (fun h => ?_)
                                · skip
                                  exact KW.sub [0, 1, 2] rfl (hj39 v35.1 x37 h)
                                · skip
                                  refine k_iinc (w := 1) o hb dX12_count_226 1 rfl (by decide) rfl ?_
                                  exact KW.sub [1, 0, 2] rfl (hj39 (v35.1 + 1) x37 h)
    · skip
      refine k_iconst (v := 0) o hb dX12_count_34 (by decide) ?_
      exact k_iret o hb B.hr fr dX12_count_35 h
  · skip
    refine wJoin_elim (M := fun K => ∀  (x45 : HS), K  x45 → KW g 4 23 [(0, .q l0), (1, .i l1)] [.q l0] x45) h ?_ (fun j44 hj44 h => ?_)
    · skip
      intro  x45 h
      refine k_iconst (v := 1) o hb dX12_count_23 (by decide) ?_
      refine k_goto (tgt := 28) o hb dX12_count_24 (by decide) ?_
      exact KW.sub [0, 1] rfl (hj1 1 x45 h)
    · skip
      refine k_if_lt (tgt := 23) o hb dX12_count_2 (by decide) h (fun h => ?_) (fun h => ?_)
      · skip
        exact KW.sub [0, 1] rfl (hj44 x h)
      · skip
        refine k_iload_n o hb dX12_count_5 rfl 1 rfl ?_
        refine k_bipush (v := 9) o hb dX12_count_6 (by decide) ?_
        refine wJoin_elim (M := fun K => ∀  (x47 : HS), K  x47 → KW g 4 17 [(0, .q l0), (1, .i l1)] [.q l0] x47) h ?_ (fun j46 hj46 h => ?_)
        · skip
          intro  x47 h
          refine k_iload_n o hb dX12_count_17 rfl 1 rfl ?_
          refine k_bipush (v := 21) o hb dX12_count_18 (by decide) ?_
          refine k_icmp_le (tgt := 27) o hb dX12_count_20 (by decide) h (fun h => ?_) (fun h => ?_)
          · skip
            refine k_iconst (v := 0) o hb dX12_count_27 (by decide) ?_
            exact KW.sub [0, 1] rfl (hj1 0 x47 h)
          · skip
            exact KW.sub [0, 1] rfl (hj44 x47 h)
        · skip
          refine k_icmp_le (tgt := 17) o hb dX12_count_8 (by decide) h (fun h => ?_) (fun h => ?_)
          · skip
            exact KW.sub [0, 1] rfl (hj46 x h)
          · skip
            refine k_iload_n o hb dX12_count_11 rfl 1 rfl ?_
            refine k_bipush (v := 10) o hb dX12_count_12 (by decide) ?_
            refine k_icmp_lt (tgt := 23) o hb dX12_count_14 (by decide) h (fun h => ?_) (fun h => ?_)
            · skip
              exact KW.sub [0, 1] rfl (hj44 x h)
            · skip
              exact KW.sub [0, 1] rfl (hj46 x h)
