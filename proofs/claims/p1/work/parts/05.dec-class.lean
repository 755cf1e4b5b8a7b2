theorem dX0_init_0 : decode cX0_init 0 = .ok (.aload_n 0, 1) := by decide +kernel
theorem dX0_init_1 : decode cX0_init 1 = .ok (.invokespecial 1, 3) := by decide +kernel
theorem dX0_init_4 : decode cX0_init 4 = .ok (.aload_n 0, 1) := by decide +kernel
theorem dX0_init_5 : decode cX0_init 5 = .ok (.iload_n 1, 1) := by decide +kernel
theorem dX0_init_6 : decode cX0_init 6 = .ok (.putfield 7, 3) := by decide +kernel
theorem dX0_init_9 : decode cX0_init 9 = .ok (.aload_n 0, 1) := by decide +kernel
theorem dX0_init_10 : decode cX0_init 10 = .ok (.iload_n 2, 1) := by decide +kernel
theorem dX0_init_11 : decode cX0_init 11 = .ok (.putfield 13, 3) := by decide +kernel
theorem dX0_init_14 : decode cX0_init 14 = .ok (.aload_n 0, 1) := by decide +kernel
theorem dX0_init_15 : decode cX0_init 15 = .ok (.aload_n 3, 1) := by decide +kernel
theorem dX0_init_16 : decode cX0_init 16 = .ok (.putfield 16, 3) := by decide +kernel
theorem dX0_init_19 : decode cX0_init 19 = .ok (.return_, 1) := by decide +kernel
theorem dX2_init_0 : decode cX2_init 0 = .ok (.aload_n 0, 1) := by decide +kernel
theorem dX2_init_1 : decode cX2_init 1 = .ok (.invokespecial 3, 3) := by decide +kernel
theorem dX2_init_4 : decode cX2_init 4 = .ok (.aload_n 0, 1) := by decide +kernel
theorem dX2_init_5 : decode cX2_init 5 = .ok (.iconst 4, 1) := by decide +kernel
theorem dX2_init_6 : decode cX2_init 6 = .ok (.newarray .int, 2) := by decide +kernel
theorem dX2_init_8 : decode cX2_init 8 = .ok (.putfield 9, 3) := by decide +kernel
theorem dX2_init_11 : decode cX2_init 11 = .ok (.aload_n 0, 1) := by decide +kernel
theorem dX2_init_12 : decode cX2_init 12 = .ok (.iconst 4, 1) := by decide +kernel
theorem dX2_init_13 : decode cX2_init 13 = .ok (.newarray .int, 2) := by decide +kernel
theorem dX2_init_15 : decode cX2_init 15 = .ok (.putfield 15, 3) := by decide +kernel
theorem dX2_init_18 : decode cX2_init 18 = .ok (.return_, 1) := by decide +kernel
theorem dX3_init_0 : decode cX3_init 0 = .ok (.aload_n 0, 1) := by decide +kernel
theorem dX3_init_1 : decode cX3_init 1 = .ok (.invokespecial 3, 3) := by decide +kernel
theorem dX3_init_4 : decode cX3_init 4 = .ok (.aload_n 0, 1) := by decide +kernel
theorem dX3_init_5 : decode cX3_init 5 = .ok (.sipush 6000, 3) := by decide +kernel
theorem dX3_init_8 : decode cX3_init 8 = .ok (.anewarray 9, 3) := by decide +kernel
theorem dX3_init_11 : decode cX3_init 11 = .ok (.putfield 11, 3) := by decide +kernel
theorem dX3_init_14 : decode cX3_init 14 = .ok (.aload_n 0, 1) := by decide +kernel
theorem dX3_init_15 : decode cX3_init 15 = .ok (.sipush 6000, 3) := by decide +kernel
theorem dX3_init_18 : decode cX3_init 18 = .ok (.newarray .boolean, 2) := by decide +kernel
theorem dX3_init_20 : decode cX3_init 20 = .ok (.putfield 17, 3) := by decide +kernel
theorem dX3_init_23 : decode cX3_init 23 = .ok (.aload_n 0, 1) := by decide +kernel
theorem dX3_init_24 : decode cX3_init 24 = .ok (.bipush 8, 2) := by decide +kernel
theorem dX3_init_26 : decode cX3_init 26 = .ok (.newarray .int, 2) := by decide +kernel
theorem dX3_init_28 : decode cX3_init 28 = .ok (.putfield 21, 3) := by decide +kernel
theorem dX3_init_31 : decode cX3_init 31 = .ok (.return_, 1) := by decide +kernel
theorem dX3_makeMark_0 : decode cX3_makeMark 0 = .ok (.aload_n 0, 1) := by decide +kernel
theorem dX3_makeMark_1 : decode cX3_makeMark 1 = .ok (.getfield 25, 3) := by decide +kernel
theorem dX3_makeMark_4 : decode cX3_makeMark 4 = .ok (.bipush 8, 2) := by decide +kernel
theorem dX3_makeMark_6 : decode cX3_makeMark 6 = .ok (.if_icmp .lt 5, 3) := by decide +kernel
theorem dX3_makeMark_9 : decode cX3_makeMark 9 = .ok (.iconst 0, 1) := by decide +kernel
theorem dX3_makeMark_10 : decode cX3_makeMark 10 = .ok (.ireturn, 1) := by decide +kernel
theorem dX3_makeMark_11 : decode cX3_makeMark 11 = .ok (.aload_n 0, 1) := by decide +kernel
theorem dX3_makeMark_12 : decode cX3_makeMark 12 = .ok (.getfield 21, 3) := by decide +kernel
theorem dX3_makeMark_15 : decode cX3_makeMark 15 = .ok (.aload_n 0, 1) := by decide +kernel
theorem dX3_makeMark_16 : decode cX3_makeMark 16 = .ok (.getfield 25, 3) := by decide +kernel
theorem dX3_makeMark_19 : decode cX3_makeMark 19 = .ok (.aload_n 0, 1) := by decide +kernel
theorem dX3_makeMark_20 : decode cX3_makeMark 20 = .ok (.getfield 29, 3) := by decide +kernel
theorem dX3_makeMark_23 : decode cX3_makeMark 23 = .ok (.iastore, 1) := by decide +kernel
theorem dX3_makeMark_24 : decode cX3_makeMark 24 = .ok (.aload_n 0, 1) := by decide +kernel
theorem dX3_makeMark_25 : decode cX3_makeMark 25 = .ok (.dup, 1) := by decide +kernel
theorem dX3_makeMark_26 : decode cX3_makeMark 26 = .ok (.getfield 25, 3) := by decide +kernel
theorem dX3_makeMark_29 : decode cX3_makeMark 29 = .ok (.iconst 1, 1) := by decide +kernel
theorem dX3_makeMark_30 : decode cX3_makeMark 30 = .ok (.iadd, 1) := by decide +kernel
theorem dX3_makeMark_31 : decode cX3_makeMark 31 = .ok (.putfield 25, 3) := by decide +kernel
theorem dX3_makeMark_34 : decode cX3_makeMark 34 = .ok (.iconst 1, 1) := by decide +kernel
theorem dX3_makeMark_35 : decode cX3_makeMark 35 = .ok (.ireturn, 1) := by decide +kernel
theorem dX5_init_0 : decode cX5_init 0 = .ok (.aload_n 0, 1) := by decide +kernel
theorem dX5_init_1 : decode cX5_init 1 = .ok (.invokespecial 3, 3) := by decide +kernel
theorem dX5_init_4 : decode cX5_init 4 = .ok (.aload_n 0, 1) := by decide +kernel
theorem dX5_init_5 : decode cX5_init 5 = .ok (.iconst 4, 1) := by decide +kernel
theorem dX5_init_6 : decode cX5_init 6 = .ok (.newarray .int, 2) := by decide +kernel
theorem dX5_init_8 : decode cX5_init 8 = .ok (.putfield 9, 3) := by decide +kernel
theorem dX5_init_11 : decode cX5_init 11 = .ok (.return_, 1) := by decide +kernel
set_option maxRecDepth 20000 in
theorem ggX6_init_X2_init : GoodIn wsX6_init wsX2_init := goodIn_r _ [10, 11, 2, 3, 12, 13, 14, 23, 24, 25, 26, 27, 28] (by decide +kernel) (by decide +kernel)
set_option maxRecDepth 20000 in
theorem gX6_init_X2_init_n21 : GoodIn wsX6_init (wsX2_init) := ggX6_init_X2_init
theorem dX6_init_0 : decode cX6_init 0 = .ok (.aload_n 0, 1) := by decide +kernel
theorem dX6_init_1 : decode cX6_init 1 = .ok (.invokespecial 3, 3) := by decide +kernel
theorem dX6_init_4 : decode cX6_init 4 = .ok (.aload_n 0, 1) := by decide +kernel
theorem dX6_init_5 : decode cX6_init 5 = .ok (.bipush 10, 2) := by decide +kernel
theorem dX6_init_7 : decode cX6_init 7 = .ok (.anewarray 9, 3) := by decide +kernel
theorem dX6_init_10 : decode cX6_init 10 = .ok (.putfield 11, 3) := by decide +kernel
theorem dX6_init_13 : decode cX6_init 13 = .ok (.aload_n 0, 1) := by decide +kernel
theorem dX6_init_14 : decode cX6_init 14 = .ok (.iconst (-1), 1) := by decide +kernel
theorem dX6_init_15 : decode cX6_init 15 = .ok (.putfield 17, 3) := by decide +kernel
theorem dX6_init_18 : decode cX6_init 18 = .ok (.iconst 0, 1) := by decide +kernel
theorem dX6_init_19 : decode cX6_init 19 = .ok (.istore_n 1, 1) := by decide +kernel
theorem dX6_init_20 : decode cX6_init 20 = .ok (.iload_n 1, 1) := by decide +kernel
theorem dX6_init_21 : decode cX6_init 21 = .ok (.bipush 10, 2) := by decide +kernel
theorem dX6_init_23 : decode cX6_init 23 = .ok (.if_icmp .ge 22, 3) := by decide +kernel
theorem dX6_init_26 : decode cX6_init 26 = .ok (.aload_n 0, 1) := by decide +kernel
theorem dX6_init_27 : decode cX6_init 27 = .ok (.getfield 11, 3) := by decide +kernel
theorem dX6_init_30 : decode cX6_init 30 = .ok (.iload_n 1, 1) := by decide +kernel
theorem dX6_init_31 : decode cX6_init 31 = .ok (.new 9, 3) := by decide +kernel
theorem dX6_init_34 : decode cX6_init 34 = .ok (.dup, 1) := by decide +kernel
theorem dX6_init_35 : decode cX6_init 35 = .ok (.invokespecial 21, 3) := by decide +kernel
theorem dX6_init_38 : decode cX6_init 38 = .ok (.aastore, 1) := by decide +kernel
theorem dX6_init_39 : decode cX6_init 39 = .ok (.iinc 1 1, 3) := by decide +kernel
theorem dX6_init_42 : decode cX6_init 42 = .ok (.goto (-22), 3) := by decide +kernel
theorem dX6_init_45 : decode cX6_init 45 = .ok (.return_, 1) := by decide +kernel
set_option maxRecDepth 20000 in
theorem ggX6_readQuestion_X6_skipBlanks : GoodIn wsX6_readQuestion wsX6_skipBlanks := goodIn_r _ [12, 4, 2, 13, 14, 15, 11, 16, 1, 89, 90, 91, 92, 93, 94, 95, 96] (by decide +kernel) (by decide +kernel)
set_option maxRecDepth 20000 in
theorem gX6_readQuestion_X6_skipBlanks : GoodIn wsX6_readQuestion (wsV RX6 39 RX6 yX6_skipBlanks wsX6_skipBlanks) := goodIn_app (goodIn_of _ (by decide +kernel)) ggX6_readQuestion_X6_skipBlanks
set_option maxRecDepth 20000 in
theorem ggX6_readQuestion_X6_here : GoodIn wsX6_readQuestion wsX6_here := goodIn_r _ [16, 4, 2, 1, 89, 90, 91, 92, 93, 94, 95, 96] (by decide +kernel) (by decide +kernel)
set_option maxRecDepth 20000 in
theorem gX6_readQuestion_X6_here : GoodIn wsX6_readQuestion (wsV RX6 42 RX6 yX6_here wsX6_here) := goodIn_app (goodIn_of _ (by decide +kernel)) ggX6_readQuestion_X6_here
set_option maxRecDepth 20000 in
theorem ggX6_readQuestion_X6_readSignGoal : GoodIn wsX6_readQuestion wsX6_readSignGoal := goodIn_ca (goodIn_r _ [75, 4, 55, 56, 76, 5, 21, 51, 52, 53, 11, 54, 13, 14, 15, 16, 2, 1, 57, 58, 59, 60, 40, 41, 42, 43, 33, 34, 35, 36, 37, 38, 39, 8, 9, 10, 12, 77, 78, 79, 80, 81, 82, 83, 84, 65, 66, 67, 85, 86, 87, 88, 89, 90, 91, 92, 93, 94, 95, 96, 97, 98, 99, 100, 101, 102] (by decide +kernel) (by decide +kernel)) (goodIn_sub (fun _ h => List.mem_cons_of_mem _ (List.mem_append_right _ h)) (by decide +kernel))
set_option maxRecDepth 20000 in
theorem gX6_readQuestion_X6_readSignGoal : GoodIn wsX6_readQuestion (wsV RX6 50 RX6 yX6_readSignGoal wsX6_readSignGoal) := goodIn_app (goodIn_of _ (by decide +kernel)) ggX6_readQuestion_X6_readSignGoal
set_option maxRecDepth 20000 in
theorem ggX6_readQuestion_X6_refuse : GoodIn wsX6_readQuestion wsX6_refuse := goodIn_ca (goodIn_r _ [36, 37, 38, 39, 89, 90, 91, 92, 93, 94, 95, 96] (by decide +kernel) (by decide +kernel)) (goodIn_sub (fun _ h => List.mem_cons_of_mem _ (List.mem_append_right _ h)) (by decide +kernel))
set_option maxRecDepth 20000 in
theorem gX6_readQuestion_X6_refuse : GoodIn wsX6_readQuestion (wsV RX6 60 RX6 yX6_refuse wsX6_refuse) := goodIn_app (goodIn_of _ (by decide +kernel)) ggX6_readQuestion_X6_refuse
theorem dX6_readQuestion_0 : decode cX6_readQuestion 0 = .ok (.aload_n 0, 1) := by decide +kernel
theorem dX6_readQuestion_1 : decode cX6_readQuestion 1 = .ok (.aload_n 1, 1) := by decide +kernel
theorem dX6_readQuestion_2 : decode cX6_readQuestion 2 = .ok (.putfield 22, 3) := by decide +kernel
theorem dX6_readQuestion_5 : decode cX6_readQuestion 5 = .ok (.aload_n 0, 1) := by decide +kernel
theorem dX6_readQuestion_6 : decode cX6_readQuestion 6 = .ok (.iload_n 2, 1) := by decide +kernel
theorem dX6_readQuestion_7 : decode cX6_readQuestion 7 = .ok (.putfield 26, 3) := by decide +kernel
theorem dX6_readQuestion_10 : decode cX6_readQuestion 10 = .ok (.aload_n 0, 1) := by decide +kernel
theorem dX6_readQuestion_11 : decode cX6_readQuestion 11 = .ok (.aload_n 3, 1) := by decide +kernel
theorem dX6_readQuestion_12 : decode cX6_readQuestion 12 = .ok (.putfield 29, 3) := by decide +kernel
theorem dX6_readQuestion_15 : decode cX6_readQuestion 15 = .ok (.aload_n 0, 1) := by decide +kernel
theorem dX6_readQuestion_16 : decode cX6_readQuestion 16 = .ok (.iconst 0, 1) := by decide +kernel
theorem dX6_readQuestion_17 : decode cX6_readQuestion 17 = .ok (.putfield 33, 3) := by decide +kernel
theorem dX6_readQuestion_20 : decode cX6_readQuestion 20 = .ok (.aload_n 0, 1) := by decide +kernel
theorem dX6_readQuestion_21 : decode cX6_readQuestion 21 = .ok (.iconst 0, 1) := by decide +kernel
theorem dX6_readQuestion_22 : decode cX6_readQuestion 22 = .ok (.putfield 36, 3) := by decide +kernel
theorem dX6_readQuestion_25 : decode cX6_readQuestion 25 = .ok (.iconst 0, 1) := by decide +kernel
theorem dX6_readQuestion_26 : decode cX6_readQuestion 26 = .ok (.istore 4, 2) := by decide +kernel
theorem dX6_readQuestion_28 : decode cX6_readQuestion 28 = .ok (.iload 4, 2) := by decide +kernel
theorem dX6_readQuestion_30 : decode cX6_readQuestion 30 = .ok (.bipush 10, 2) := by decide +kernel
theorem dX6_readQuestion_32 : decode cX6_readQuestion 32 = .ok (.if_icmp .ge 86, 3) := by decide +kernel
theorem dX6_readQuestion_35 : decode cX6_readQuestion 35 = .ok (.aload_n 0, 1) := by decide +kernel
theorem dX6_readQuestion_36 : decode cX6_readQuestion 36 = .ok (.invokevirtual 39, 3) := by decide +kernel
theorem dX6_readQuestion_39 : decode cX6_readQuestion 39 = .ok (.aload_n 0, 1) := by decide +kernel
theorem dX6_readQuestion_40 : decode cX6_readQuestion 40 = .ok (.invokevirtual 42, 3) := by decide +kernel
theorem dX6_readQuestion_43 : decode cX6_readQuestion 43 = .ok (.bipush 116, 2) := by decide +kernel
theorem dX6_readQuestion_45 : decode cX6_readQuestion 45 = .ok (.if_icmp .eq 12, 3) := by decide +kernel
theorem dX6_readQuestion_48 : decode cX6_readQuestion 48 = .ok (.aload_n 0, 1) := by decide +kernel
theorem dX6_readQuestion_49 : decode cX6_readQuestion 49 = .ok (.invokevirtual 42, 3) := by decide +kernel
theorem dX6_readQuestion_52 : decode cX6_readQuestion 52 = .ok (.bipush 33, 2) := by decide +kernel
theorem dX6_readQuestion_54 : decode cX6_readQuestion 54 = .ok (.if_icmp .ne 17, 3) := by decide +kernel
theorem dX6_readQuestion_57 : decode cX6_readQuestion 57 = .ok (.aload_n 0, 1) := by decide +kernel
theorem dX6_readQuestion_58 : decode cX6_readQuestion 58 = .ok (.aload_n 0, 1) := by decide +kernel
theorem dX6_readQuestion_59 : decode cX6_readQuestion 59 = .ok (.getfield 11, 3) := by decide +kernel
theorem dX6_readQuestion_62 : decode cX6_readQuestion 62 = .ok (.iload 4, 2) := by decide +kernel
theorem dX6_readQuestion_64 : decode cX6_readQuestion 64 = .ok (.aaload, 1) := by decide +kernel
theorem dX6_readQuestion_65 : decode cX6_readQuestion 65 = .ok (.invokevirtual 46, 3) := by decide +kernel
theorem dX6_readQuestion_68 : decode cX6_readQuestion 68 = .ok (.goto 14, 3) := by decide +kernel
theorem dX6_readQuestion_71 : decode cX6_readQuestion 71 = .ok (.aload_n 0, 1) := by decide +kernel
theorem dX6_readQuestion_72 : decode cX6_readQuestion 72 = .ok (.aload_n 0, 1) := by decide +kernel
theorem dX6_readQuestion_73 : decode cX6_readQuestion 73 = .ok (.getfield 11, 3) := by decide +kernel
theorem dX6_readQuestion_76 : decode cX6_readQuestion 76 = .ok (.iload 4, 2) := by decide +kernel
theorem dX6_readQuestion_78 : decode cX6_readQuestion 78 = .ok (.aaload, 1) := by decide +kernel
theorem dX6_readQuestion_79 : decode cX6_readQuestion 79 = .ok (.invokevirtual 50, 3) := by decide +kernel
theorem dX6_readQuestion_82 : decode cX6_readQuestion 82 = .ok (.aload_n 0, 1) := by decide +kernel
theorem dX6_readQuestion_83 : decode cX6_readQuestion 83 = .ok (.iload 4, 2) := by decide +kernel
theorem dX6_readQuestion_85 : decode cX6_readQuestion 85 = .ok (.iconst 1, 1) := by decide +kernel
theorem dX6_readQuestion_86 : decode cX6_readQuestion 86 = .ok (.iadd, 1) := by decide +kernel
theorem dX6_readQuestion_87 : decode cX6_readQuestion 87 = .ok (.putfield 53, 3) := by decide +kernel
theorem dX6_readQuestion_90 : decode cX6_readQuestion 90 = .ok (.aload_n 0, 1) := by decide +kernel
theorem dX6_readQuestion_91 : decode cX6_readQuestion 91 = .ok (.invokevirtual 39, 3) := by decide +kernel
theorem dX6_readQuestion_94 : decode cX6_readQuestion 94 = .ok (.aload_n 0, 1) := by decide +kernel
theorem dX6_readQuestion_95 : decode cX6_readQuestion 95 = .ok (.getfield 33, 3) := by decide +kernel
theorem dX6_readQuestion_98 : decode cX6_readQuestion 98 = .ok (.aload_n 0, 1) := by decide +kernel
theorem dX6_readQuestion_99 : decode cX6_readQuestion 99 = .ok (.getfield 26, 3) := by decide +kernel
theorem dX6_readQuestion_102 : decode cX6_readQuestion 102 = .ok (.if_icmp .lt 4, 3) := by decide +kernel
theorem dX6_readQuestion_105 : decode cX6_readQuestion 105 = .ok (.return_, 1) := by decide +kernel
theorem dX6_readQuestion_106 : decode cX6_readQuestion 106 = .ok (.aload_n 0, 1) := by decide +kernel
theorem dX6_readQuestion_107 : decode cX6_readQuestion 107 = .ok (.bipush 44, 2) := by decide +kernel
theorem dX6_readQuestion_109 : decode cX6_readQuestion 109 = .ok (.invokevirtual 56, 3) := by decide +kernel
theorem dX6_readQuestion_112 : decode cX6_readQuestion 112 = .ok (.iinc 4 1, 3) := by decide +kernel
theorem dX6_readQuestion_115 : decode cX6_readQuestion 115 = .ok (.goto (-87), 3) := by decide +kernel
theorem dX6_readQuestion_118 : decode cX6_readQuestion 118 = .ok (.aload_n 0, 1) := by decide +kernel
theorem dX6_readQuestion_119 : decode cX6_readQuestion 119 = .ok (.invokevirtual 39, 3) := by decide +kernel
theorem dX6_readQuestion_122 : decode cX6_readQuestion 122 = .ok (.aload_n 0, 1) := by decide +kernel
theorem dX6_readQuestion_123 : decode cX6_readQuestion 123 = .ok (.aload_n 0, 1) := by decide +kernel
theorem dX6_readQuestion_124 : decode cX6_readQuestion 124 = .ok (.getfield 33, 3) := by decide +kernel
theorem dX6_readQuestion_127 : decode cX6_readQuestion 127 = .ok (.invokevirtual 60, 3) := by decide +kernel
theorem dX6_readQuestion_130 : decode cX6_readQuestion 130 = .ok (.return_, 1) := by decide +kernel
set_option maxRecDepth 20000 in
theorem ggX6_readSignGoal_X6_readArg : GoodIn wsX6_readSignGoal wsX6_readArg := goodIn_ca (goodIn_r _ [11, 2, 3, 1, 12, 13, 14, 10, 15, 16, 17, 18, 19, 20, 21, 22, 23, 24, 25, 26, 27, 28, 29, 30, 31, 32, 60, 61, 62, 63, 64, 65, 52, 53, 54, 55, 56, 57, 58, 59] (by decide +kernel) (by decide +kernel)) (goodIn_sub (fun _ h => List.mem_cons_of_mem _ (List.mem_append_right _ h)) (by decide +kernel))
set_option maxRecDepth 20000 in
theorem gX6_readSignGoal_X6_readArg : GoodIn wsX6_readSignGoal (wsV RX6 82 RX6 yX6_readArg wsX6_readArg) := goodIn_app (goodIn_of _ (by decide +kernel)) ggX6_readSignGoal_X6_readArg
set_option maxRecDepth 20000 in
theorem ggX6_readSignGoal_X6_skipBlanks : GoodIn wsX6_readSignGoal wsX6_skipBlanks := goodIn_r _ [36, 1, 16, 12, 13, 14, 10, 15, 17, 52, 53, 54, 55, 56, 57, 58, 59] (by decide +kernel) (by decide +kernel)
set_option maxRecDepth 20000 in
theorem gX6_readSignGoal_X6_skipBlanks : GoodIn wsX6_readSignGoal (wsV RX6 39 RX6 yX6_skipBlanks wsX6_skipBlanks) := goodIn_app (goodIn_of _ (by decide +kernel)) ggX6_readSignGoal_X6_skipBlanks
set_option maxRecDepth 20000 in
theorem ggX6_readSignGoal_X6_here : GoodIn wsX6_readSignGoal wsX6_here := goodIn_r _ [15, 1, 16, 17, 52, 53, 54, 55, 56, 57, 58, 59] (by decide +kernel) (by decide +kernel)
set_option maxRecDepth 20000 in
theorem gX6_readSignGoal_X6_here : GoodIn wsX6_readSignGoal (wsV RX6 42 RX6 yX6_here wsX6_here) := goodIn_app (goodIn_of _ (by decide +kernel)) ggX6_readSignGoal_X6_here
set_option maxRecDepth 20000 in
theorem ggX6_readSignGoal_X6_refuse : GoodIn wsX6_readSignGoal wsX6_refuse := goodIn_ca (goodIn_r _ [29, 30, 31, 32, 52, 53, 54, 55, 56, 57, 58, 59] (by decide +kernel) (by decide +kernel)) (goodIn_sub (fun _ h => List.mem_cons_of_mem _ (List.mem_append_right _ h)) (by decide +kernel))
set_option maxRecDepth 20000 in
theorem gX6_readSignGoal_X6_refuse : GoodIn wsX6_readSignGoal (wsV RX6 60 RX6 yX6_refuse wsX6_refuse) := goodIn_app (goodIn_of _ (by decide +kernel)) ggX6_readSignGoal_X6_refuse
theorem dX6_readSignGoal_0 : decode cX6_readSignGoal 0 = .ok (.aload_n 0, 1) := by decide +kernel
theorem dX6_readSignGoal_1 : decode cX6_readSignGoal 1 = .ok (.getfield 33, 3) := by decide +kernel
theorem dX6_readSignGoal_4 : decode cX6_readSignGoal 4 = .ok (.istore_n 2, 1) := by decide +kernel
theorem dX6_readSignGoal_5 : decode cX6_readSignGoal 5 = .ok (.iconst 0, 1) := by decide +kernel
theorem dX6_readSignGoal_6 : decode cX6_readSignGoal 6 = .ok (.istore_n 3, 1) := by decide +kernel
theorem dX6_readSignGoal_7 : decode cX6_readSignGoal 7 = .ok (.aload_n 0, 1) := by decide +kernel
theorem dX6_readSignGoal_8 : decode cX6_readSignGoal 8 = .ok (.aload_n 1, 1) := by decide +kernel
theorem dX6_readSignGoal_9 : decode cX6_readSignGoal 9 = .ok (.iconst 0, 1) := by decide +kernel
theorem dX6_readSignGoal_10 : decode cX6_readSignGoal 10 = .ok (.iconst 0, 1) := by decide +kernel
theorem dX6_readSignGoal_11 : decode cX6_readSignGoal 11 = .ok (.invokevirtual 82, 3) := by decide +kernel
theorem dX6_readSignGoal_14 : decode cX6_readSignGoal 14 = .ok (.aload_n 0, 1) := by decide +kernel
theorem dX6_readSignGoal_15 : decode cX6_readSignGoal 15 = .ok (.invokevirtual 39, 3) := by decide +kernel
theorem dX6_readSignGoal_18 : decode cX6_readSignGoal 18 = .ok (.aload_n 0, 1) := by decide +kernel
theorem dX6_readSignGoal_19 : decode cX6_readSignGoal 19 = .ok (.invokevirtual 42, 3) := by decide +kernel
theorem dX6_readSignGoal_22 : decode cX6_readSignGoal 22 = .ok (.bipush 58, 2) := by decide +kernel
theorem dX6_readSignGoal_24 : decode cX6_readSignGoal 24 = .ok (.if_icmp .ne 81, 3) := by decide +kernel
theorem dX6_readSignGoal_27 : decode cX6_readSignGoal 27 = .ok (.aload_n 1, 1) := by decide +kernel
theorem dX6_readSignGoal_28 : decode cX6_readSignGoal 28 = .ok (.getfield 102, 3) := by decide +kernel
theorem dX6_readSignGoal_31 : decode cX6_readSignGoal 31 = .ok (.iconst 0, 1) := by decide +kernel
theorem dX6_readSignGoal_32 : decode cX6_readSignGoal 32 = .ok (.iaload, 1) := by decide +kernel
theorem dX6_readSignGoal_33 : decode cX6_readSignGoal 33 = .ok (.iconst 2, 1) := by decide +kernel
theorem dX6_readSignGoal_34 : decode cX6_readSignGoal 34 = .ok (.if_icmp .ne 71, 3) := by decide +kernel
theorem dX6_readSignGoal_37 : decode cX6_readSignGoal 37 = .ok (.aload_n 1, 1) := by decide +kernel
theorem dX6_readSignGoal_38 : decode cX6_readSignGoal 38 = .ok (.aload_n 1, 1) := by decide +kernel
theorem dX6_readSignGoal_39 : decode cX6_readSignGoal 39 = .ok (.getfield 106, 3) := by decide +kernel
theorem dX6_readSignGoal_42 : decode cX6_readSignGoal 42 = .ok (.iconst 0, 1) := by decide +kernel
theorem dX6_readSignGoal_43 : decode cX6_readSignGoal 43 = .ok (.iaload, 1) := by decide +kernel
theorem dX6_readSignGoal_44 : decode cX6_readSignGoal 44 = .ok (.putfield 113, 3) := by decide +kernel
theorem dX6_readSignGoal_47 : decode cX6_readSignGoal 47 = .ok (.iconst 1, 1) := by decide +kernel
theorem dX6_readSignGoal_48 : decode cX6_readSignGoal 48 = .ok (.aload_n 1, 1) := by decide +kernel
theorem dX6_readSignGoal_49 : decode cX6_readSignGoal 49 = .ok (.getfield 113, 3) := by decide +kernel
theorem dX6_readSignGoal_52 : decode cX6_readSignGoal 52 = .ok (.ishl, 1) := by decide +kernel
theorem dX6_readSignGoal_53 : decode cX6_readSignGoal 53 = .ok (.istore_n 3, 1) := by decide +kernel
theorem dX6_readSignGoal_54 : decode cX6_readSignGoal 54 = .ok (.aload_n 0, 1) := by decide +kernel
theorem dX6_readSignGoal_55 : decode cX6_readSignGoal 55 = .ok (.getfield 36, 3) := by decide +kernel
theorem dX6_readSignGoal_58 : decode cX6_readSignGoal 58 = .ok (.iload_n 3, 1) := by decide +kernel
theorem dX6_readSignGoal_59 : decode cX6_readSignGoal 59 = .ok (.iand, 1) := by decide +kernel
theorem dX6_readSignGoal_60 : decode cX6_readSignGoal 60 = .ok (.ifCond .eq 8, 3) := by decide +kernel
theorem dX6_readSignGoal_63 : decode cX6_readSignGoal 63 = .ok (.aload_n 0, 1) := by decide +kernel
theorem dX6_readSignGoal_64 : decode cX6_readSignGoal 64 = .ok (.iload_n 2, 1) := by decide +kernel
theorem dX6_readSignGoal_65 : decode cX6_readSignGoal 65 = .ok (.invokevirtual 60, 3) := by decide +kernel
theorem dX6_readSignGoal_68 : decode cX6_readSignGoal 68 = .ok (.aload_n 0, 1) := by decide +kernel
theorem dX6_readSignGoal_69 : decode cX6_readSignGoal 69 = .ok (.dup, 1) := by decide +kernel
theorem dX6_readSignGoal_70 : decode cX6_readSignGoal 70 = .ok (.getfield 33, 3) := by decide +kernel
theorem dX6_readSignGoal_73 : decode cX6_readSignGoal 73 = .ok (.iconst 1, 1) := by decide +kernel
theorem dX6_readSignGoal_74 : decode cX6_readSignGoal 74 = .ok (.iadd, 1) := by decide +kernel
theorem dX6_readSignGoal_75 : decode cX6_readSignGoal 75 = .ok (.putfield 33, 3) := by decide +kernel
theorem dX6_readSignGoal_78 : decode cX6_readSignGoal 78 = .ok (.aload_n 0, 1) := by decide +kernel
theorem dX6_readSignGoal_79 : decode cX6_readSignGoal 79 = .ok (.aload_n 1, 1) := by decide +kernel
theorem dX6_readSignGoal_80 : decode cX6_readSignGoal 80 = .ok (.iconst 0, 1) := by decide +kernel
theorem dX6_readSignGoal_81 : decode cX6_readSignGoal 81 = .ok (.invokevirtual 116, 3) := by decide +kernel
theorem dX6_readSignGoal_84 : decode cX6_readSignGoal 84 = .ok (.aload_n 0, 1) := by decide +kernel
theorem dX6_readSignGoal_85 : decode cX6_readSignGoal 85 = .ok (.invokevirtual 39, 3) := by decide +kernel
theorem dX6_readSignGoal_88 : decode cX6_readSignGoal 88 = .ok (.aload_n 1, 1) := by decide +kernel
theorem dX6_readSignGoal_89 : decode cX6_readSignGoal 89 = .ok (.aload_n 0, 1) := by decide +kernel
theorem dX6_readSignGoal_90 : decode cX6_readSignGoal 90 = .ok (.bipush 43, 2) := by decide +kernel
theorem dX6_readSignGoal_92 : decode cX6_readSignGoal 92 = .ok (.bipush 45, 2) := by decide +kernel
theorem dX6_readSignGoal_94 : decode cX6_readSignGoal 94 = .ok (.bipush 42, 2) := by decide +kernel
theorem dX6_readSignGoal_96 : decode cX6_readSignGoal 96 = .ok (.invokevirtual 120, 3) := by decide +kernel
theorem dX6_readSignGoal_99 : decode cX6_readSignGoal 99 = .ok (.putfield 63, 3) := by decide +kernel
theorem dX6_readSignGoal_102 : decode cX6_readSignGoal 102 = .ok (.goto 24, 3) := by decide +kernel
theorem dX6_readSignGoal_105 : decode cX6_readSignGoal 105 = .ok (.aload_n 1, 1) := by decide +kernel
theorem dX6_readSignGoal_106 : decode cX6_readSignGoal 106 = .ok (.aload_n 0, 1) := by decide +kernel
theorem dX6_readSignGoal_107 : decode cX6_readSignGoal 107 = .ok (.bipush 60, 2) := by decide +kernel
theorem dX6_readSignGoal_109 : decode cX6_readSignGoal 109 = .ok (.bipush 61, 2) := by decide +kernel
theorem dX6_readSignGoal_111 : decode cX6_readSignGoal 111 = .ok (.bipush 35, 2) := by decide +kernel
theorem dX6_readSignGoal_113 : decode cX6_readSignGoal 113 = .ok (.invokevirtual 120, 3) := by decide +kernel
theorem dX6_readSignGoal_116 : decode cX6_readSignGoal 116 = .ok (.putfield 63, 3) := by decide +kernel
theorem dX6_readSignGoal_119 : decode cX6_readSignGoal 119 = .ok (.aload_n 0, 1) := by decide +kernel
theorem dX6_readSignGoal_120 : decode cX6_readSignGoal 120 = .ok (.aload_n 1, 1) := by decide +kernel
theorem dX6_readSignGoal_121 : decode cX6_readSignGoal 121 = .ok (.iconst 0, 1) := by decide +kernel
theorem dX6_readSignGoal_122 : decode cX6_readSignGoal 122 = .ok (.iload_n 2, 1) := by decide +kernel
theorem dX6_readSignGoal_123 : decode cX6_readSignGoal 123 = .ok (.invokevirtual 124, 3) := by decide +kernel
theorem dX6_readSignGoal_126 : decode cX6_readSignGoal 126 = .ok (.aload_n 0, 1) := by decide +kernel
theorem dX6_readSignGoal_127 : decode cX6_readSignGoal 127 = .ok (.aload_n 1, 1) := by decide +kernel
theorem dX6_readSignGoal_128 : decode cX6_readSignGoal 128 = .ok (.iconst 1, 1) := by decide +kernel
theorem dX6_readSignGoal_129 : decode cX6_readSignGoal 129 = .ok (.invokevirtual 116, 3) := by decide +kernel
theorem dX6_readSignGoal_132 : decode cX6_readSignGoal 132 = .ok (.aload_n 0, 1) := by decide +kernel
theorem dX6_readSignGoal_133 : decode cX6_readSignGoal 133 = .ok (.dup, 1) := by decide +kernel
theorem dX6_readSignGoal_134 : decode cX6_readSignGoal 134 = .ok (.getfield 36, 3) := by decide +kernel
theorem dX6_readSignGoal_137 : decode cX6_readSignGoal 137 = .ok (.iload_n 3, 1) := by decide +kernel
theorem dX6_readSignGoal_138 : decode cX6_readSignGoal 138 = .ok (.ior, 1) := by decide +kernel
theorem dX6_readSignGoal_139 : decode cX6_readSignGoal 139 = .ok (.putfield 36, 3) := by decide +kernel
theorem dX6_readSignGoal_142 : decode cX6_readSignGoal 142 = .ok (.return_, 1) := by decide +kernel
set_option maxRecDepth 20000 in
theorem ggX6_readArg_X6_here : GoodIn wsX6_readArg wsX6_here := goodIn_r _ [8, 3, 9, 10, 32, 33, 34, 35, 36, 37, 38, 39] (by decide +kernel) (by decide +kernel)
set_option maxRecDepth 20000 in
theorem gX6_readArg_X6_here : GoodIn wsX6_readArg (wsV RX6 42 RX6 yX6_here wsX6_here) := goodIn_app (goodIn_of _ (by decide +kernel)) ggX6_readArg_X6_here
set_option maxRecDepth 20000 in
theorem ggX6_readArg_X6_readNumber : GoodIn wsX6_readArg wsX6_readNumber := goodIn_ca (goodIn_r _ [14, 3, 4, 5, 6, 7, 8, 9, 10, 15, 16, 17, 18, 19, 20, 21, 22, 23, 24, 25, 32, 33, 34, 35, 36, 37, 38, 39] (by decide +kernel) (by decide +kernel)) (goodIn_sub (fun _ h => List.mem_cons_of_mem _ (List.mem_append_right _ h)) (by decide +kernel))
set_option maxRecDepth 20000 in
theorem gX6_readArg_X6_readNumber : GoodIn wsX6_readArg (wsV RX6 128 RX6 yX6_readNumber wsX6_readNumber) := goodIn_app (goodIn_of _ (by decide +kernel)) ggX6_readArg_X6_readNumber
theorem dX6_readArg_0 : decode cX6_readArg 0 = .ok (.aload_n 0, 1) := by decide +kernel
theorem dX6_readArg_1 : decode cX6_readArg 1 = .ok (.invokevirtual 42, 3) := by decide +kernel
theorem dX6_readArg_4 : decode cX6_readArg 4 = .ok (.istore 4, 2) := by decide +kernel
theorem dX6_readArg_6 : decode cX6_readArg 6 = .ok (.iload 4, 2) := by decide +kernel
theorem dX6_readArg_8 : decode cX6_readArg 8 = .ok (.bipush 65, 2) := by decide +kernel
theorem dX6_readArg_10 : decode cX6_readArg 10 = .ok (.if_icmp .lt 41, 3) := by decide +kernel
theorem dX6_readArg_13 : decode cX6_readArg 13 = .ok (.iload 4, 2) := by decide +kernel
theorem dX6_readArg_15 : decode cX6_readArg 15 = .ok (.bipush 73, 2) := by decide +kernel
theorem dX6_readArg_17 : decode cX6_readArg 17 = .ok (.if_icmp .ge 34, 3) := by decide +kernel
theorem dX6_readArg_20 : decode cX6_readArg 20 = .ok (.aload_n 1, 1) := by decide +kernel
theorem dX6_readArg_21 : decode cX6_readArg 21 = .ok (.getfield 102, 3) := by decide +kernel
theorem dX6_readArg_24 : decode cX6_readArg 24 = .ok (.iload_n 2, 1) := by decide +kernel
theorem dX6_readArg_25 : decode cX6_readArg 25 = .ok (.iconst 2, 1) := by decide +kernel
theorem dX6_readArg_26 : decode cX6_readArg 26 = .ok (.iastore, 1) := by decide +kernel
theorem dX6_readArg_27 : decode cX6_readArg 27 = .ok (.aload_n 1, 1) := by decide +kernel
theorem dX6_readArg_28 : decode cX6_readArg 28 = .ok (.getfield 106, 3) := by decide +kernel
theorem dX6_readArg_31 : decode cX6_readArg 31 = .ok (.iload_n 2, 1) := by decide +kernel
theorem dX6_readArg_32 : decode cX6_readArg 32 = .ok (.iload 4, 2) := by decide +kernel
theorem dX6_readArg_34 : decode cX6_readArg 34 = .ok (.bipush 65, 2) := by decide +kernel
theorem dX6_readArg_36 : decode cX6_readArg 36 = .ok (.isub, 1) := by decide +kernel
theorem dX6_readArg_37 : decode cX6_readArg 37 = .ok (.iastore, 1) := by decide +kernel
theorem dX6_readArg_38 : decode cX6_readArg 38 = .ok (.aload_n 0, 1) := by decide +kernel
theorem dX6_readArg_39 : decode cX6_readArg 39 = .ok (.dup, 1) := by decide +kernel
theorem dX6_readArg_40 : decode cX6_readArg 40 = .ok (.getfield 33, 3) := by decide +kernel
theorem dX6_readArg_43 : decode cX6_readArg 43 = .ok (.iconst 1, 1) := by decide +kernel
theorem dX6_readArg_44 : decode cX6_readArg 44 = .ok (.iadd, 1) := by decide +kernel
theorem dX6_readArg_45 : decode cX6_readArg 45 = .ok (.putfield 33, 3) := by decide +kernel
theorem dX6_readArg_48 : decode cX6_readArg 48 = .ok (.goto 51, 3) := by decide +kernel
theorem dX6_readArg_51 : decode cX6_readArg 51 = .ok (.iload 4, 2) := by decide +kernel
theorem dX6_readArg_53 : decode cX6_readArg 53 = .ok (.bipush 95, 2) := by decide +kernel
theorem dX6_readArg_55 : decode cX6_readArg 55 = .ok (.if_icmp .ne 27, 3) := by decide +kernel
theorem dX6_readArg_58 : decode cX6_readArg 58 = .ok (.iload_n 3, 1) := by decide +kernel
theorem dX6_readArg_59 : decode cX6_readArg 59 = .ok (.ifCond .eq 23, 3) := by decide +kernel
theorem dX6_readArg_62 : decode cX6_readArg 62 = .ok (.aload_n 1, 1) := by decide +kernel
theorem dX6_readArg_63 : decode cX6_readArg 63 = .ok (.getfield 102, 3) := by decide +kernel
theorem dX6_readArg_66 : decode cX6_readArg 66 = .ok (.iload_n 2, 1) := by decide +kernel
theorem dX6_readArg_67 : decode cX6_readArg 67 = .ok (.iconst 4, 1) := by decide +kernel
theorem dX6_readArg_68 : decode cX6_readArg 68 = .ok (.iastore, 1) := by decide +kernel
theorem dX6_readArg_69 : decode cX6_readArg 69 = .ok (.aload_n 0, 1) := by decide +kernel
theorem dX6_readArg_70 : decode cX6_readArg 70 = .ok (.dup, 1) := by decide +kernel
theorem dX6_readArg_71 : decode cX6_readArg 71 = .ok (.getfield 33, 3) := by decide +kernel
theorem dX6_readArg_74 : decode cX6_readArg 74 = .ok (.iconst 1, 1) := by decide +kernel
theorem dX6_readArg_75 : decode cX6_readArg 75 = .ok (.iadd, 1) := by decide +kernel
theorem dX6_readArg_76 : decode cX6_readArg 76 = .ok (.putfield 33, 3) := by decide +kernel
theorem dX6_readArg_79 : decode cX6_readArg 79 = .ok (.goto 20, 3) := by decide +kernel
theorem dX6_readArg_82 : decode cX6_readArg 82 = .ok (.aload_n 1, 1) := by decide +kernel
theorem dX6_readArg_83 : decode cX6_readArg 83 = .ok (.getfield 102, 3) := by decide +kernel
theorem dX6_readArg_86 : decode cX6_readArg 86 = .ok (.iload_n 2, 1) := by decide +kernel
theorem dX6_readArg_87 : decode cX6_readArg 87 = .ok (.iconst 0, 1) := by decide +kernel
theorem dX6_readArg_88 : decode cX6_readArg 88 = .ok (.iastore, 1) := by decide +kernel
theorem dX6_readArg_89 : decode cX6_readArg 89 = .ok (.aload_n 1, 1) := by decide +kernel
theorem dX6_readArg_90 : decode cX6_readArg 90 = .ok (.getfield 106, 3) := by decide +kernel
theorem dX6_readArg_93 : decode cX6_readArg 93 = .ok (.iload_n 2, 1) := by decide +kernel
theorem dX6_readArg_94 : decode cX6_readArg 94 = .ok (.aload_n 0, 1) := by decide +kernel
theorem dX6_readArg_95 : decode cX6_readArg 95 = .ok (.invokevirtual 128, 3) := by decide +kernel
theorem dX6_readArg_98 : decode cX6_readArg 98 = .ok (.iastore, 1) := by decide +kernel
theorem dX6_readArg_99 : decode cX6_readArg 99 = .ok (.return_, 1) := by decide +kernel
set_option maxRecDepth 20000 in
theorem ggX6_readNumber_X6_here : GoodIn wsX6_readNumber wsX6_here := goodIn_r _ [6, 1, 7, 8, 20, 21, 22, 23, 24, 25, 26, 27] (by decide +kernel) (by decide +kernel)
set_option maxRecDepth 20000 in
theorem gX6_readNumber_X6_here : GoodIn wsX6_readNumber (wsV RX6 42 RX6 yX6_here wsX6_here) := goodIn_app (goodIn_of _ (by decide +kernel)) ggX6_readNumber_X6_here
set_option maxRecDepth 20000 in
theorem ggX6_readNumber_X6_readDigits : GoodIn wsX6_readNumber wsX6_readDigits := goodIn_r _ [12, 1, 7, 8, 20, 21, 22, 23, 24, 25, 26, 27] (by decide +kernel) (by decide +kernel)
set_option maxRecDepth 20000 in
theorem gX6_readNumber_X6_readDigits : GoodIn wsX6_readNumber (wsV RX6 93 RX6 yX6_readDigits wsX6_readDigits) := goodIn_app (goodIn_of _ (by decide +kernel)) ggX6_readNumber_X6_readDigits
set_option maxRecDepth 20000 in
theorem ggX6_readNumber_X6_refuse : GoodIn wsX6_readNumber wsX6_refuse := goodIn_ca (goodIn_r _ [16, 17, 18, 19, 20, 21, 22, 23, 24, 25, 26, 27] (by decide +kernel) (by decide +kernel)) (goodIn_sub (fun _ h => List.mem_cons_of_mem _ (List.mem_append_right _ h)) (by decide +kernel))
set_option maxRecDepth 20000 in
theorem gX6_readNumber_X6_refuse : GoodIn wsX6_readNumber (wsV RX6 60 RX6 yX6_refuse wsX6_refuse) := goodIn_app (goodIn_of _ (by decide +kernel)) ggX6_readNumber_X6_refuse
theorem dX6_readNumber_0 : decode cX6_readNumber 0 = .ok (.aload_n 0, 1) := by decide +kernel
theorem dX6_readNumber_1 : decode cX6_readNumber 1 = .ok (.getfield 33, 3) := by decide +kernel
theorem dX6_readNumber_4 : decode cX6_readNumber 4 = .ok (.istore_n 1, 1) := by decide +kernel
theorem dX6_readNumber_5 : decode cX6_readNumber 5 = .ok (.aload_n 0, 1) := by decide +kernel
theorem dX6_readNumber_6 : decode cX6_readNumber 6 = .ok (.invokevirtual 42, 3) := by decide +kernel
theorem dX6_readNumber_9 : decode cX6_readNumber 9 = .ok (.bipush 45, 2) := by decide +kernel
theorem dX6_readNumber_11 : decode cX6_readNumber 11 = .ok (.if_icmp .ne 7, 3) := by decide +kernel
theorem dX6_readNumber_14 : decode cX6_readNumber 14 = .ok (.iconst 1, 1) := by decide +kernel
theorem dX6_readNumber_15 : decode cX6_readNumber 15 = .ok (.goto 4, 3) := by decide +kernel
theorem dX6_readNumber_18 : decode cX6_readNumber 18 = .ok (.iconst 0, 1) := by decide +kernel
theorem dX6_readNumber_19 : decode cX6_readNumber 19 = .ok (.istore_n 2, 1) := by decide +kernel
theorem dX6_readNumber_20 : decode cX6_readNumber 20 = .ok (.iload_n 2, 1) := by decide +kernel
theorem dX6_readNumber_21 : decode cX6_readNumber 21 = .ok (.ifCond .eq 13, 3) := by decide +kernel
theorem dX6_readNumber_24 : decode cX6_readNumber 24 = .ok (.aload_n 0, 1) := by decide +kernel
theorem dX6_readNumber_25 : decode cX6_readNumber 25 = .ok (.dup, 1) := by decide +kernel
theorem dX6_readNumber_26 : decode cX6_readNumber 26 = .ok (.getfield 33, 3) := by decide +kernel
theorem dX6_readNumber_29 : decode cX6_readNumber 29 = .ok (.iconst 1, 1) := by decide +kernel
theorem dX6_readNumber_30 : decode cX6_readNumber 30 = .ok (.iadd, 1) := by decide +kernel
theorem dX6_readNumber_31 : decode cX6_readNumber 31 = .ok (.putfield 33, 3) := by decide +kernel
theorem dX6_readNumber_34 : decode cX6_readNumber 34 = .ok (.aload_n 0, 1) := by decide +kernel
theorem dX6_readNumber_35 : decode cX6_readNumber 35 = .ok (.getfield 33, 3) := by decide +kernel
theorem dX6_readNumber_38 : decode cX6_readNumber 38 = .ok (.istore_n 3, 1) := by decide +kernel
theorem dX6_readNumber_39 : decode cX6_readNumber 39 = .ok (.aload_n 0, 1) := by decide +kernel
theorem dX6_readNumber_40 : decode cX6_readNumber 40 = .ok (.invokevirtual 93, 3) := by decide +kernel
theorem dX6_readNumber_43 : decode cX6_readNumber 43 = .ok (.istore 4, 2) := by decide +kernel
theorem dX6_readNumber_45 : decode cX6_readNumber 45 = .ok (.aload_n 0, 1) := by decide +kernel
theorem dX6_readNumber_46 : decode cX6_readNumber 46 = .ok (.getfield 33, 3) := by decide +kernel
theorem dX6_readNumber_49 : decode cX6_readNumber 49 = .ok (.iload_n 3, 1) := by decide +kernel
theorem dX6_readNumber_50 : decode cX6_readNumber 50 = .ok (.if_icmp .eq 14, 3) := by decide +kernel
theorem dX6_readNumber_53 : decode cX6_readNumber 53 = .ok (.aload_n 0, 1) := by decide +kernel
theorem dX6_readNumber_54 : decode cX6_readNumber 54 = .ok (.getfield 33, 3) := by decide +kernel
theorem dX6_readNumber_57 : decode cX6_readNumber 57 = .ok (.iload_n 3, 1) := by decide +kernel
theorem dX6_readNumber_58 : decode cX6_readNumber 58 = .ok (.isub, 1) := by decide +kernel
theorem dX6_readNumber_59 : decode cX6_readNumber 59 = .ok (.bipush 9, 2) := by decide +kernel
theorem dX6_readNumber_61 : decode cX6_readNumber 61 = .ok (.if_icmp .le 8, 3) := by decide +kernel
theorem dX6_readNumber_64 : decode cX6_readNumber 64 = .ok (.aload_n 0, 1) := by decide +kernel
theorem dX6_readNumber_65 : decode cX6_readNumber 65 = .ok (.iload_n 1, 1) := by decide +kernel
theorem dX6_readNumber_66 : decode cX6_readNumber 66 = .ok (.invokevirtual 60, 3) := by decide +kernel
theorem dX6_readNumber_69 : decode cX6_readNumber 69 = .ok (.iload_n 2, 1) := by decide +kernel
theorem dX6_readNumber_70 : decode cX6_readNumber 70 = .ok (.ifCond .eq 9, 3) := by decide +kernel
theorem dX6_readNumber_73 : decode cX6_readNumber 73 = .ok (.iload 4, 2) := by decide +kernel
theorem dX6_readNumber_75 : decode cX6_readNumber 75 = .ok (.ineg, 1) := by decide +kernel
theorem dX6_readNumber_76 : decode cX6_readNumber 76 = .ok (.goto 5, 3) := by decide +kernel
theorem dX6_readNumber_79 : decode cX6_readNumber 79 = .ok (.iload 4, 2) := by decide +kernel
theorem dX6_readNumber_81 : decode cX6_readNumber 81 = .ok (.ireturn, 1) := by decide +kernel
theorem dX6_readDigits_0 : decode cX6_readDigits 0 = .ok (.iconst 0, 1) := by decide +kernel
theorem dX6_readDigits_1 : decode cX6_readDigits 1 = .ok (.istore_n 1, 1) := by decide +kernel
theorem dX6_readDigits_2 : decode cX6_readDigits 2 = .ok (.aload_n 0, 1) := by decide +kernel
theorem dX6_readDigits_3 : decode cX6_readDigits 3 = .ok (.getfield 33, 3) := by decide +kernel
theorem dX6_readDigits_6 : decode cX6_readDigits 6 = .ok (.aload_n 0, 1) := by decide +kernel
theorem dX6_readDigits_7 : decode cX6_readDigits 7 = .ok (.getfield 26, 3) := by decide +kernel
theorem dX6_readDigits_10 : decode cX6_readDigits 10 = .ok (.if_icmp .ge 62, 3) := by decide +kernel
theorem dX6_readDigits_13 : decode cX6_readDigits 13 = .ok (.aload_n 0, 1) := by decide +kernel
theorem dX6_readDigits_14 : decode cX6_readDigits 14 = .ok (.getfield 22, 3) := by decide +kernel
theorem dX6_readDigits_17 : decode cX6_readDigits 17 = .ok (.aload_n 0, 1) := by decide +kernel
theorem dX6_readDigits_18 : decode cX6_readDigits 18 = .ok (.getfield 33, 3) := by decide +kernel
theorem dX6_readDigits_21 : decode cX6_readDigits 21 = .ok (.baload, 1) := by decide +kernel
theorem dX6_readDigits_22 : decode cX6_readDigits 22 = .ok (.bipush 48, 2) := by decide +kernel
theorem dX6_readDigits_24 : decode cX6_readDigits 24 = .ok (.if_icmp .lt 48, 3) := by decide +kernel
theorem dX6_readDigits_27 : decode cX6_readDigits 27 = .ok (.aload_n 0, 1) := by decide +kernel
theorem dX6_readDigits_28 : decode cX6_readDigits 28 = .ok (.getfield 22, 3) := by decide +kernel
theorem dX6_readDigits_31 : decode cX6_readDigits 31 = .ok (.aload_n 0, 1) := by decide +kernel
theorem dX6_readDigits_32 : decode cX6_readDigits 32 = .ok (.getfield 33, 3) := by decide +kernel
theorem dX6_readDigits_35 : decode cX6_readDigits 35 = .ok (.baload, 1) := by decide +kernel
theorem dX6_readDigits_36 : decode cX6_readDigits 36 = .ok (.bipush 57, 2) := by decide +kernel
theorem dX6_readDigits_38 : decode cX6_readDigits 38 = .ok (.if_icmp .gt 34, 3) := by decide +kernel
theorem dX6_readDigits_41 : decode cX6_readDigits 41 = .ok (.iload_n 1, 1) := by decide +kernel
theorem dX6_readDigits_42 : decode cX6_readDigits 42 = .ok (.bipush 10, 2) := by decide +kernel
theorem dX6_readDigits_44 : decode cX6_readDigits 44 = .ok (.imul, 1) := by decide +kernel
theorem dX6_readDigits_45 : decode cX6_readDigits 45 = .ok (.aload_n 0, 1) := by decide +kernel
theorem dX6_readDigits_46 : decode cX6_readDigits 46 = .ok (.getfield 22, 3) := by decide +kernel
theorem dX6_readDigits_49 : decode cX6_readDigits 49 = .ok (.aload_n 0, 1) := by decide +kernel
theorem dX6_readDigits_50 : decode cX6_readDigits 50 = .ok (.getfield 33, 3) := by decide +kernel
theorem dX6_readDigits_53 : decode cX6_readDigits 53 = .ok (.baload, 1) := by decide +kernel
theorem dX6_readDigits_54 : decode cX6_readDigits 54 = .ok (.iadd, 1) := by decide +kernel
theorem dX6_readDigits_55 : decode cX6_readDigits 55 = .ok (.bipush 48, 2) := by decide +kernel
theorem dX6_readDigits_57 : decode cX6_readDigits 57 = .ok (.isub, 1) := by decide +kernel
theorem dX6_readDigits_58 : decode cX6_readDigits 58 = .ok (.istore_n 1, 1) := by decide +kernel
theorem dX6_readDigits_59 : decode cX6_readDigits 59 = .ok (.aload_n 0, 1) := by decide +kernel
theorem dX6_readDigits_60 : decode cX6_readDigits 60 = .ok (.dup, 1) := by decide +kernel
theorem dX6_readDigits_61 : decode cX6_readDigits 61 = .ok (.getfield 33, 3) := by decide +kernel
theorem dX6_readDigits_64 : decode cX6_readDigits 64 = .ok (.iconst 1, 1) := by decide +kernel
theorem dX6_readDigits_65 : decode cX6_readDigits 65 = .ok (.iadd, 1) := by decide +kernel
theorem dX6_readDigits_66 : decode cX6_readDigits 66 = .ok (.putfield 33, 3) := by decide +kernel
theorem dX6_readDigits_69 : decode cX6_readDigits 69 = .ok (.goto (-67), 3) := by decide +kernel
theorem dX6_readDigits_72 : decode cX6_readDigits 72 = .ok (.iload_n 1, 1) := by decide +kernel
theorem dX6_readDigits_73 : decode cX6_readDigits 73 = .ok (.ireturn, 1) := by decide +kernel
set_option maxRecDepth 20000 in
theorem ggX6_skipBlanks_X6_here : GoodIn wsX6_skipBlanks wsX6_here := goodIn_r _ [7, 1, 2, 8, 9, 10, 11, 12, 13, 14, 15, 16] (by decide +kernel) (by decide +kernel)
set_option maxRecDepth 20000 in
theorem gX6_skipBlanks_X6_here : GoodIn wsX6_skipBlanks (wsV RX6 42 RX6 yX6_here wsX6_here) := goodIn_app (goodIn_of _ (by decide +kernel)) ggX6_skipBlanks_X6_here
theorem dX6_skipBlanks_0 : decode cX6_skipBlanks 0 = .ok (.aload_n 0, 1) := by decide +kernel
theorem dX6_skipBlanks_1 : decode cX6_skipBlanks 1 = .ok (.getfield 33, 3) := by decide +kernel
theorem dX6_skipBlanks_4 : decode cX6_skipBlanks 4 = .ok (.aload_n 0, 1) := by decide +kernel
theorem dX6_skipBlanks_5 : decode cX6_skipBlanks 5 = .ok (.getfield 26, 3) := by decide +kernel
theorem dX6_skipBlanks_8 : decode cX6_skipBlanks 8 = .ok (.if_icmp .ge 25, 3) := by decide +kernel
theorem dX6_skipBlanks_11 : decode cX6_skipBlanks 11 = .ok (.aload_n 0, 1) := by decide +kernel
theorem dX6_skipBlanks_12 : decode cX6_skipBlanks 12 = .ok (.invokevirtual 42, 3) := by decide +kernel
theorem dX6_skipBlanks_15 : decode cX6_skipBlanks 15 = .ok (.bipush 32, 2) := by decide +kernel
theorem dX6_skipBlanks_17 : decode cX6_skipBlanks 17 = .ok (.if_icmp .ne 16, 3) := by decide +kernel
theorem dX6_skipBlanks_20 : decode cX6_skipBlanks 20 = .ok (.aload_n 0, 1) := by decide +kernel
theorem dX6_skipBlanks_21 : decode cX6_skipBlanks 21 = .ok (.dup, 1) := by decide +kernel
theorem dX6_skipBlanks_22 : decode cX6_skipBlanks 22 = .ok (.getfield 33, 3) := by decide +kernel
theorem dX6_skipBlanks_25 : decode cX6_skipBlanks 25 = .ok (.iconst 1, 1) := by decide +kernel
theorem dX6_skipBlanks_26 : decode cX6_skipBlanks 26 = .ok (.iadd, 1) := by decide +kernel
theorem dX6_skipBlanks_27 : decode cX6_skipBlanks 27 = .ok (.putfield 33, 3) := by decide +kernel
theorem dX6_skipBlanks_30 : decode cX6_skipBlanks 30 = .ok (.goto (-30), 3) := by decide +kernel
theorem dX6_skipBlanks_33 : decode cX6_skipBlanks 33 = .ok (.return_, 1) := by decide +kernel
theorem dX6_here_0 : decode cX6_here 0 = .ok (.aload_n 0, 1) := by decide +kernel
theorem dX6_here_1 : decode cX6_here 1 = .ok (.getfield 33, 3) := by decide +kernel
theorem dX6_here_4 : decode cX6_here 4 = .ok (.ifCond .lt 26, 3) := by decide +kernel
theorem dX6_here_7 : decode cX6_here 7 = .ok (.aload_n 0, 1) := by decide +kernel
theorem dX6_here_8 : decode cX6_here 8 = .ok (.getfield 33, 3) := by decide +kernel
theorem dX6_here_11 : decode cX6_here 11 = .ok (.aload_n 0, 1) := by decide +kernel
theorem dX6_here_12 : decode cX6_here 12 = .ok (.getfield 26, 3) := by decide +kernel
theorem dX6_here_15 : decode cX6_here 15 = .ok (.if_icmp .ge 15, 3) := by decide +kernel
theorem dX6_here_18 : decode cX6_here 18 = .ok (.aload_n 0, 1) := by decide +kernel
theorem dX6_here_19 : decode cX6_here 19 = .ok (.getfield 33, 3) := by decide +kernel
theorem dX6_here_22 : decode cX6_here 22 = .ok (.aload_n 0, 1) := by decide +kernel
theorem dX6_here_23 : decode cX6_here 23 = .ok (.getfield 22, 3) := by decide +kernel
theorem dX6_here_26 : decode cX6_here 26 = .ok (.arraylength, 1) := by decide +kernel
theorem dX6_here_27 : decode cX6_here 27 = .ok (.if_icmp .lt 7, 3) := by decide +kernel
theorem dX6_here_30 : decode cX6_here 30 = .ok (.iconst (-1), 1) := by decide +kernel
theorem dX6_here_31 : decode cX6_here 31 = .ok (.goto 16, 3) := by decide +kernel
theorem dX6_here_34 : decode cX6_here 34 = .ok (.aload_n 0, 1) := by decide +kernel
theorem dX6_here_35 : decode cX6_here 35 = .ok (.getfield 22, 3) := by decide +kernel
theorem dX6_here_38 : decode cX6_here 38 = .ok (.aload_n 0, 1) := by decide +kernel
theorem dX6_here_39 : decode cX6_here 39 = .ok (.getfield 33, 3) := by decide +kernel
theorem dX6_here_42 : decode cX6_here 42 = .ok (.baload, 1) := by decide +kernel
theorem dX6_here_43 : decode cX6_here 43 = .ok (.sipush 255, 3) := by decide +kernel
theorem dX6_here_46 : decode cX6_here 46 = .ok (.iand, 1) := by decide +kernel
theorem dX6_here_47 : decode cX6_here 47 = .ok (.ireturn, 1) := by decide +kernel
theorem dX6_refuse_0 : decode cX6_refuse 0 = .ok (.aload_n 0, 1) := by decide +kernel
theorem dX6_refuse_1 : decode cX6_refuse 1 = .ok (.iload_n 1, 1) := by decide +kernel
theorem dX6_refuse_2 : decode cX6_refuse 2 = .ok (.putfield 17, 3) := by decide +kernel
theorem dX6_refuse_5 : decode cX6_refuse 5 = .ok (.new 131, 3) := by decide +kernel
theorem dX6_refuse_8 : decode cX6_refuse 8 = .ok (.dup, 1) := by decide +kernel
theorem dX6_refuse_9 : decode cX6_refuse 9 = .ok (.ldc 133, 2) := by decide +kernel
theorem dX6_refuse_11 : decode cX6_refuse 11 = .ok (.invokespecial 135, 3) := by decide +kernel
theorem dX6_refuse_14 : decode cX6_refuse 14 = .ok (.athrow, 1) := by decide +kernel
theorem dX7_init_0 : decode cX7_init 0 = .ok (.aload_n 0, 1) := by decide +kernel
theorem dX7_init_1 : decode cX7_init 1 = .ok (.invokespecial 3, 3) := by decide +kernel
theorem dX7_init_4 : decode cX7_init 4 = .ok (.aload_n 0, 1) := by decide +kernel
theorem dX7_init_5 : decode cX7_init 5 = .ok (.sipush 800, 3) := by decide +kernel
theorem dX7_init_8 : decode cX7_init 8 = .ok (.newarray .int, 2) := by decide +kernel
theorem dX7_init_10 : decode cX7_init 10 = .ok (.putfield 9, 3) := by decide +kernel
theorem dX7_init_13 : decode cX7_init 13 = .ok (.return_, 1) := by decide +kernel
theorem dX7_keptCount_0 : decode cX7_keptCount 0 = .ok (.aload_n 0, 1) := by decide +kernel
theorem dX7_keptCount_1 : decode cX7_keptCount 1 = .ok (.getfield 15, 3) := by decide +kernel
theorem dX7_keptCount_4 : decode cX7_keptCount 4 = .ok (.bipush 100, 2) := by decide +kernel
theorem dX7_keptCount_6 : decode cX7_keptCount 6 = .ok (.invokestatic 19, 3) := by decide +kernel
theorem dX7_keptCount_9 : decode cX7_keptCount 9 = .ok (.ireturn, 1) := by decide +kernel
set_option maxRecDepth 20000 in
theorem ggX8_init_X7_init : GoodIn wsX8_init wsX7_init := goodIn_r _ [17, 18, 2, 3, 11, 19, 24, 25, 26] (by decide +kernel) (by decide +kernel)
set_option maxRecDepth 20000 in
theorem gX8_init_X7_init_n11 : GoodIn wsX8_init (wsX7_init) := ggX8_init_X7_init
set_option maxRecDepth 20000 in
theorem ggX8_init_X5_init : GoodIn wsX8_init wsX5_init := goodIn_r _ [21, 22, 2, 3, 11, 23, 35, 36, 37, 38, 39, 40, 41, 42] (by decide +kernel) (by decide +kernel)
set_option maxRecDepth 20000 in
theorem gX8_init_X5_init_n34 : GoodIn wsX8_init (wsX5_init) := ggX8_init_X5_init
theorem dX8_init_0 : decode cX8_init 0 = .ok (.aload_n 0, 1) := by decide +kernel
theorem dX8_init_1 : decode cX8_init 1 = .ok (.invokespecial 3, 3) := by decide +kernel
theorem dX8_init_4 : decode cX8_init 4 = .ok (.aload_n 0, 1) := by decide +kernel
theorem dX8_init_5 : decode cX8_init 5 = .ok (.new 9, 3) := by decide +kernel
theorem dX8_init_8 : decode cX8_init 8 = .ok (.dup, 1) := by decide +kernel
theorem dX8_init_9 : decode cX8_init 9 = .ok (.invokespecial 11, 3) := by decide +kernel
theorem dX8_init_12 : decode cX8_init 12 = .ok (.putfield 12, 3) := by decide +kernel
theorem dX8_init_15 : decode cX8_init 15 = .ok (.aload_n 0, 1) := by decide +kernel
theorem dX8_init_16 : decode cX8_init 16 = .ok (.new 9, 3) := by decide +kernel
theorem dX8_init_19 : decode cX8_init 19 = .ok (.dup, 1) := by decide +kernel
theorem dX8_init_20 : decode cX8_init 20 = .ok (.invokespecial 11, 3) := by decide +kernel
theorem dX8_init_23 : decode cX8_init 23 = .ok (.putfield 18, 3) := by decide +kernel
theorem dX8_init_26 : decode cX8_init 26 = .ok (.aload_n 0, 1) := by decide +kernel
theorem dX8_init_27 : decode cX8_init 27 = .ok (.bipush 10, 2) := by decide +kernel
theorem dX8_init_29 : decode cX8_init 29 = .ok (.anewarray 21, 3) := by decide +kernel
theorem dX8_init_32 : decode cX8_init 32 = .ok (.putfield 23, 3) := by decide +kernel
theorem dX8_init_35 : decode cX8_init 35 = .ok (.aload_n 0, 1) := by decide +kernel
theorem dX8_init_36 : decode cX8_init 36 = .ok (.bipush 8, 2) := by decide +kernel
theorem dX8_init_38 : decode cX8_init 38 = .ok (.newarray .int, 2) := by decide +kernel
theorem dX8_init_40 : decode cX8_init 40 = .ok (.putfield 27, 3) := by decide +kernel
theorem dX8_init_43 : decode cX8_init 43 = .ok (.aload_n 0, 1) := by decide +kernel
theorem dX8_init_44 : decode cX8_init 44 = .ok (.iconst 4, 1) := by decide +kernel
theorem dX8_init_45 : decode cX8_init 45 = .ok (.newarray .int, 2) := by decide +kernel
theorem dX8_init_47 : decode cX8_init 47 = .ok (.putfield 31, 3) := by decide +kernel
theorem dX8_init_50 : decode cX8_init 50 = .ok (.iconst 0, 1) := by decide +kernel
theorem dX8_init_51 : decode cX8_init 51 = .ok (.istore_n 1, 1) := by decide +kernel
theorem dX8_init_52 : decode cX8_init 52 = .ok (.iload_n 1, 1) := by decide +kernel
theorem dX8_init_53 : decode cX8_init 53 = .ok (.bipush 10, 2) := by decide +kernel
theorem dX8_init_55 : decode cX8_init 55 = .ok (.if_icmp .ge 22, 3) := by decide +kernel
theorem dX8_init_58 : decode cX8_init 58 = .ok (.aload_n 0, 1) := by decide +kernel
theorem dX8_init_59 : decode cX8_init 59 = .ok (.getfield 23, 3) := by decide +kernel
theorem dX8_init_62 : decode cX8_init 62 = .ok (.iload_n 1, 1) := by decide +kernel
theorem dX8_init_63 : decode cX8_init 63 = .ok (.new 21, 3) := by decide +kernel
theorem dX8_init_66 : decode cX8_init 66 = .ok (.dup, 1) := by decide +kernel
theorem dX8_init_67 : decode cX8_init 67 = .ok (.invokespecial 34, 3) := by decide +kernel
theorem dX8_init_70 : decode cX8_init 70 = .ok (.aastore, 1) := by decide +kernel
theorem dX8_init_71 : decode cX8_init 71 = .ok (.iinc 1 1, 3) := by decide +kernel
theorem dX8_init_74 : decode cX8_init 74 = .ok (.goto (-22), 3) := by decide +kernel
theorem dX8_init_77 : decode cX8_init 77 = .ok (.return_, 1) := by decide +kernel
set_option maxRecDepth 20000 in
theorem ggX9_init_X3_init : GoodIn wsX9_init wsX3_init := goodIn_r _ [13, 14, 2, 3, 15, 16, 17, 18, 19, 20, 29, 30, 31, 32, 33] (by decide +kernel) (by decide +kernel)
set_option maxRecDepth 20000 in
theorem gX9_init_X3_init_n25 : GoodIn wsX9_init (wsX3_init) := ggX9_init_X3_init
theorem dX9_init_0 : decode cX9_init 0 = .ok (.aload_n 0, 1) := by decide +kernel
theorem dX9_init_1 : decode cX9_init 1 = .ok (.invokespecial 3, 3) := by decide +kernel
theorem dX9_init_4 : decode cX9_init 4 = .ok (.aload_n 0, 1) := by decide +kernel
theorem dX9_init_5 : decode cX9_init 5 = .ok (.bipush 12, 2) := by decide +kernel
theorem dX9_init_7 : decode cX9_init 7 = .ok (.anewarray 9, 3) := by decide +kernel
theorem dX9_init_10 : decode cX9_init 10 = .ok (.putfield 11, 3) := by decide +kernel
theorem dX9_init_13 : decode cX9_init 13 = .ok (.aload_n 0, 1) := by decide +kernel
theorem dX9_init_14 : decode cX9_init 14 = .ok (.sipush 3000, 3) := by decide +kernel
theorem dX9_init_17 : decode cX9_init 17 = .ok (.anewarray 17, 3) := by decide +kernel
theorem dX9_init_20 : decode cX9_init 20 = .ok (.putfield 19, 3) := by decide +kernel
theorem dX9_init_23 : decode cX9_init 23 = .ok (.aload_n 0, 1) := by decide +kernel
theorem dX9_init_24 : decode cX9_init 24 = .ok (.new 23, 3) := by decide +kernel
theorem dX9_init_27 : decode cX9_init 27 = .ok (.dup, 1) := by decide +kernel
theorem dX9_init_28 : decode cX9_init 28 = .ok (.invokespecial 25, 3) := by decide +kernel
theorem dX9_init_31 : decode cX9_init 31 = .ok (.putfield 26, 3) := by decide +kernel
theorem dX9_init_34 : decode cX9_init 34 = .ok (.return_, 1) := by decide +kernel
set_option maxRecDepth 20000 in
theorem ggX9_makeTable_X10_init : GoodIn wsX9_makeTable wsX10_init := goodIn_r _ [8, 9, 10, 11, 12, 13, 14, 15, 16, 17, 18, 19, 20, 21, 22, 23, 24, 25, 26, 27, 28, 43, 44, 45, 46, 47, 37, 38, 39, 40, 41, 42] (by decide +kernel) (by decide +kernel)
set_option maxRecDepth 20000 in
theorem gX9_makeTable_X10_init : GoodIn wsX9_makeTable (wsX10_init) := ggX9_makeTable_X10_init
theorem dX9_makeTable_0 : decode cX9_makeTable 0 = .ok (.aload_n 0, 1) := by decide +kernel
theorem dX9_makeTable_1 : decode cX9_makeTable 1 = .ok (.getfield 30, 3) := by decide +kernel
theorem dX9_makeTable_4 : decode cX9_makeTable 4 = .ok (.bipush 12, 2) := by decide +kernel
theorem dX9_makeTable_6 : decode cX9_makeTable 6 = .ok (.if_icmp .lt 5, 3) := by decide +kernel
theorem dX9_makeTable_9 : decode cX9_makeTable 9 = .ok (.iconst (-1), 1) := by decide +kernel
theorem dX9_makeTable_10 : decode cX9_makeTable 10 = .ok (.ireturn, 1) := by decide +kernel
theorem dX9_makeTable_11 : decode cX9_makeTable 11 = .ok (.aload_n 0, 1) := by decide +kernel
theorem dX9_makeTable_12 : decode cX9_makeTable 12 = .ok (.getfield 11, 3) := by decide +kernel
theorem dX9_makeTable_15 : decode cX9_makeTable 15 = .ok (.aload_n 0, 1) := by decide +kernel
theorem dX9_makeTable_16 : decode cX9_makeTable 16 = .ok (.getfield 30, 3) := by decide +kernel
theorem dX9_makeTable_19 : decode cX9_makeTable 19 = .ok (.new 9, 3) := by decide +kernel
theorem dX9_makeTable_22 : decode cX9_makeTable 22 = .ok (.dup, 1) := by decide +kernel
theorem dX9_makeTable_23 : decode cX9_makeTable 23 = .ok (.aload_n 0, 1) := by decide +kernel
theorem dX9_makeTable_24 : decode cX9_makeTable 24 = .ok (.getfield 30, 3) := by decide +kernel
theorem dX9_makeTable_27 : decode cX9_makeTable 27 = .ok (.iload_n 1, 1) := by decide +kernel
theorem dX9_makeTable_28 : decode cX9_makeTable 28 = .ok (.invokespecial 34, 3) := by decide +kernel
theorem dX9_makeTable_31 : decode cX9_makeTable 31 = .ok (.aastore, 1) := by decide +kernel
theorem dX9_makeTable_32 : decode cX9_makeTable 32 = .ok (.aload_n 0, 1) := by decide +kernel
theorem dX9_makeTable_33 : decode cX9_makeTable 33 = .ok (.dup, 1) := by decide +kernel
theorem dX9_makeTable_34 : decode cX9_makeTable 34 = .ok (.getfield 30, 3) := by decide +kernel
theorem dX9_makeTable_37 : decode cX9_makeTable 37 = .ok (.iconst 1, 1) := by decide +kernel
theorem dX9_makeTable_38 : decode cX9_makeTable 38 = .ok (.iadd, 1) := by decide +kernel
theorem dX9_makeTable_39 : decode cX9_makeTable 39 = .ok (.putfield 30, 3) := by decide +kernel
theorem dX9_makeTable_42 : decode cX9_makeTable 42 = .ok (.aload_n 0, 1) := by decide +kernel
theorem dX9_makeTable_43 : decode cX9_makeTable 43 = .ok (.getfield 30, 3) := by decide +kernel
theorem dX9_makeTable_46 : decode cX9_makeTable 46 = .ok (.iconst 1, 1) := by decide +kernel
theorem dX9_makeTable_47 : decode cX9_makeTable 47 = .ok (.isub, 1) := by decide +kernel
theorem dX9_makeTable_48 : decode cX9_makeTable 48 = .ok (.ireturn, 1) := by decide +kernel
theorem dX9_tableAt_0 : decode cX9_tableAt 0 = .ok (.iload_n 1, 1) := by decide +kernel
theorem dX9_tableAt_1 : decode cX9_tableAt 1 = .ok (.ifCond .lt 11, 3) := by decide +kernel
theorem dX9_tableAt_4 : decode cX9_tableAt 4 = .ok (.iload_n 1, 1) := by decide +kernel
theorem dX9_tableAt_5 : decode cX9_tableAt 5 = .ok (.aload_n 0, 1) := by decide +kernel
theorem dX9_tableAt_6 : decode cX9_tableAt 6 = .ok (.getfield 30, 3) := by decide +kernel
theorem dX9_tableAt_9 : decode cX9_tableAt 9 = .ok (.if_icmp .lt 7, 3) := by decide +kernel
theorem dX9_tableAt_12 : decode cX9_tableAt 12 = .ok (.aconst_null, 1) := by decide +kernel
theorem dX9_tableAt_13 : decode cX9_tableAt 13 = .ok (.goto 9, 3) := by decide +kernel
theorem dX9_tableAt_16 : decode cX9_tableAt 16 = .ok (.aload_n 0, 1) := by decide +kernel
theorem dX9_tableAt_17 : decode cX9_tableAt 17 = .ok (.getfield 11, 3) := by decide +kernel
theorem dX9_tableAt_20 : decode cX9_tableAt 20 = .ok (.iload_n 1, 1) := by decide +kernel
theorem dX9_tableAt_21 : decode cX9_tableAt 21 = .ok (.aaload, 1) := by decide +kernel
theorem dX9_tableAt_22 : decode cX9_tableAt 22 = .ok (.areturn, 1) := by decide +kernel
theorem dX9_timeOf_0 : decode cX9_timeOf 0 = .ok (.iload_n 1, 1) := by decide +kernel
theorem dX9_timeOf_1 : decode cX9_timeOf 1 = .ok (.iconst (-1), 1) := by decide +kernel
theorem dX9_timeOf_2 : decode cX9_timeOf 2 = .ok (.if_icmp .ne 10, 3) := by decide +kernel
theorem dX9_timeOf_5 : decode cX9_timeOf 5 = .ok (.aload_n 0, 1) := by decide +kernel
theorem dX9_timeOf_6 : decode cX9_timeOf 6 = .ok (.getfield 37, 3) := by decide +kernel
theorem dX9_timeOf_9 : decode cX9_timeOf 9 = .ok (.goto 4, 3) := by decide +kernel
theorem dX9_timeOf_12 : decode cX9_timeOf 12 = .ok (.iload_n 1, 1) := by decide +kernel
theorem dX9_timeOf_13 : decode cX9_timeOf 13 = .ok (.ireturn, 1) := by decide +kernel
theorem dX9_withNumber_0 : decode cX9_withNumber 0 = .ok (.iconst 0, 1) := by decide +kernel
theorem dX9_withNumber_1 : decode cX9_withNumber 1 = .ok (.istore_n 2, 1) := by decide +kernel
theorem dX9_withNumber_2 : decode cX9_withNumber 2 = .ok (.iload_n 2, 1) := by decide +kernel
theorem dX9_withNumber_3 : decode cX9_withNumber 3 = .ok (.aload_n 0, 1) := by decide +kernel
theorem dX9_withNumber_4 : decode cX9_withNumber 4 = .ok (.getfield 40, 3) := by decide +kernel
theorem dX9_withNumber_7 : decode cX9_withNumber 7 = .ok (.if_icmp .ge 29, 3) := by decide +kernel
theorem dX9_withNumber_10 : decode cX9_withNumber 10 = .ok (.aload_n 0, 1) := by decide +kernel
theorem dX9_withNumber_11 : decode cX9_withNumber 11 = .ok (.getfield 19, 3) := by decide +kernel
theorem dX9_withNumber_14 : decode cX9_withNumber 14 = .ok (.iload_n 2, 1) := by decide +kernel
theorem dX9_withNumber_15 : decode cX9_withNumber 15 = .ok (.aaload, 1) := by decide +kernel
theorem dX9_withNumber_16 : decode cX9_withNumber 16 = .ok (.getfield 55, 3) := by decide +kernel
theorem dX9_withNumber_19 : decode cX9_withNumber 19 = .ok (.iload_n 1, 1) := by decide +kernel
theorem dX9_withNumber_20 : decode cX9_withNumber 20 = .ok (.if_icmp .ne 10, 3) := by decide +kernel
theorem dX9_withNumber_23 : decode cX9_withNumber 23 = .ok (.aload_n 0, 1) := by decide +kernel
theorem dX9_withNumber_24 : decode cX9_withNumber 24 = .ok (.getfield 19, 3) := by decide +kernel
theorem dX9_withNumber_27 : decode cX9_withNumber 27 = .ok (.iload_n 2, 1) := by decide +kernel
theorem dX9_withNumber_28 : decode cX9_withNumber 28 = .ok (.aaload, 1) := by decide +kernel
theorem dX9_withNumber_29 : decode cX9_withNumber 29 = .ok (.areturn, 1) := by decide +kernel
theorem dX9_withNumber_30 : decode cX9_withNumber 30 = .ok (.iinc 2 1, 3) := by decide +kernel
theorem dX9_withNumber_33 : decode cX9_withNumber 33 = .ok (.goto (-31), 3) := by decide +kernel
theorem dX9_withNumber_36 : decode cX9_withNumber 36 = .ok (.aconst_null, 1) := by decide +kernel
theorem dX9_withNumber_37 : decode cX9_withNumber 37 = .ok (.areturn, 1) := by decide +kernel
theorem dX9_forgetDead_0 : decode cX9_forgetDead 0 = .ok (.aload_n 0, 1) := by decide +kernel
theorem dX9_forgetDead_1 : decode cX9_forgetDead 1 = .ok (.aload_n 0, 1) := by decide +kernel
theorem dX9_forgetDead_2 : decode cX9_forgetDead 2 = .ok (.getfield 103, 3) := by decide +kernel
theorem dX9_forgetDead_5 : decode cX9_forgetDead 5 = .ok (.iload_n 1, 1) := by decide +kernel
theorem dX9_forgetDead_6 : decode cX9_forgetDead 6 = .ok (.invokestatic 106, 3) := by decide +kernel
theorem dX9_forgetDead_9 : decode cX9_forgetDead 9 = .ok (.putfield 103, 3) := by decide +kernel
theorem dX9_forgetDead_12 : decode cX9_forgetDead 12 = .ok (.iconst 0, 1) := by decide +kernel
theorem dX9_forgetDead_13 : decode cX9_forgetDead 13 = .ok (.istore_n 2, 1) := by decide +kernel
theorem dX9_forgetDead_14 : decode cX9_forgetDead 14 = .ok (.iload_n 2, 1) := by decide +kernel
theorem dX9_forgetDead_15 : decode cX9_forgetDead 15 = .ok (.aload_n 0, 1) := by decide +kernel
theorem dX9_forgetDead_16 : decode cX9_forgetDead 16 = .ok (.getfield 30, 3) := by decide +kernel
theorem dX9_forgetDead_19 : decode cX9_forgetDead 19 = .ok (.if_icmp .ge 22, 3) := by decide +kernel
theorem dX9_forgetDead_22 : decode cX9_forgetDead 22 = .ok (.aload_n 0, 1) := by decide +kernel
theorem dX9_forgetDead_23 : decode cX9_forgetDead 23 = .ok (.getfield 11, 3) := by decide +kernel
theorem dX9_forgetDead_26 : decode cX9_forgetDead 26 = .ok (.iload_n 2, 1) := by decide +kernel
theorem dX9_forgetDead_27 : decode cX9_forgetDead 27 = .ok (.aaload, 1) := by decide +kernel
theorem dX9_forgetDead_28 : decode cX9_forgetDead 28 = .ok (.aload_n 0, 1) := by decide +kernel
theorem dX9_forgetDead_29 : decode cX9_forgetDead 29 = .ok (.getfield 103, 3) := by decide +kernel
theorem dX9_forgetDead_32 : decode cX9_forgetDead 32 = .ok (.invokevirtual 112, 3) := by decide +kernel
theorem dX9_forgetDead_35 : decode cX9_forgetDead 35 = .ok (.iinc 2 1, 3) := by decide +kernel
theorem dX9_forgetDead_38 : decode cX9_forgetDead 38 = .ok (.goto (-24), 3) := by decide +kernel
theorem dX9_forgetDead_41 : decode cX9_forgetDead 41 = .ok (.aload_n 0, 1) := by decide +kernel
theorem dX9_forgetDead_42 : decode cX9_forgetDead 42 = .ok (.getfield 40, 3) := by decide +kernel
theorem dX9_forgetDead_45 : decode cX9_forgetDead 45 = .ok (.istore_n 2, 1) := by decide +kernel
theorem dX9_forgetDead_46 : decode cX9_forgetDead 46 = .ok (.aload_n 0, 1) := by decide +kernel
theorem dX9_forgetDead_47 : decode cX9_forgetDead 47 = .ok (.iconst 0, 1) := by decide +kernel
theorem dX9_forgetDead_48 : decode cX9_forgetDead 48 = .ok (.putfield 40, 3) := by decide +kernel
theorem dX9_forgetDead_51 : decode cX9_forgetDead 51 = .ok (.iconst 0, 1) := by decide +kernel
theorem dX9_forgetDead_52 : decode cX9_forgetDead 52 = .ok (.istore_n 3, 1) := by decide +kernel
theorem dX9_forgetDead_53 : decode cX9_forgetDead 53 = .ok (.iload_n 3, 1) := by decide +kernel
theorem dX9_forgetDead_54 : decode cX9_forgetDead 54 = .ok (.iload_n 2, 1) := by decide +kernel
theorem dX9_forgetDead_55 : decode cX9_forgetDead 55 = .ok (.if_icmp .ge 73, 3) := by decide +kernel
theorem dX9_forgetDead_58 : decode cX9_forgetDead 58 = .ok (.aload_n 0, 1) := by decide +kernel
theorem dX9_forgetDead_59 : decode cX9_forgetDead 59 = .ok (.getfield 19, 3) := by decide +kernel
theorem dX9_forgetDead_62 : decode cX9_forgetDead 62 = .ok (.iload_n 3, 1) := by decide +kernel
theorem dX9_forgetDead_63 : decode cX9_forgetDead 63 = .ok (.aaload, 1) := by decide +kernel
theorem dX9_forgetDead_64 : decode cX9_forgetDead 64 = .ok (.astore 4, 2) := by decide +kernel
theorem dX9_forgetDead_66 : decode cX9_forgetDead 66 = .ok (.aload 4, 2) := by decide +kernel
theorem dX9_forgetDead_68 : decode cX9_forgetDead 68 = .ok (.invokevirtual 116, 3) := by decide +kernel
theorem dX9_forgetDead_71 : decode cX9_forgetDead 71 = .ok (.ifCond .ne 15, 3) := by decide +kernel
theorem dX9_forgetDead_74 : decode cX9_forgetDead 74 = .ok (.aload 4, 2) := by decide +kernel
theorem dX9_forgetDead_76 : decode cX9_forgetDead 76 = .ok (.getfield 61, 3) := by decide +kernel
theorem dX9_forgetDead_79 : decode cX9_forgetDead 79 = .ok (.aload_n 0, 1) := by decide +kernel
theorem dX9_forgetDead_80 : decode cX9_forgetDead 80 = .ok (.getfield 103, 3) := by decide +kernel
theorem dX9_forgetDead_83 : decode cX9_forgetDead 83 = .ok (.if_icmp .le 39, 3) := by decide +kernel
theorem dX9_forgetDead_86 : decode cX9_forgetDead 86 = .ok (.aload_n 0, 1) := by decide +kernel
theorem dX9_forgetDead_87 : decode cX9_forgetDead 87 = .ok (.getfield 19, 3) := by decide +kernel
theorem dX9_forgetDead_90 : decode cX9_forgetDead 90 = .ok (.iload_n 3, 1) := by decide +kernel
theorem dX9_forgetDead_91 : decode cX9_forgetDead 91 = .ok (.aload_n 0, 1) := by decide +kernel
theorem dX9_forgetDead_92 : decode cX9_forgetDead 92 = .ok (.getfield 19, 3) := by decide +kernel
theorem dX9_forgetDead_95 : decode cX9_forgetDead 95 = .ok (.aload_n 0, 1) := by decide +kernel
theorem dX9_forgetDead_96 : decode cX9_forgetDead 96 = .ok (.getfield 40, 3) := by decide +kernel
theorem dX9_forgetDead_99 : decode cX9_forgetDead 99 = .ok (.aaload, 1) := by decide +kernel
theorem dX9_forgetDead_100 : decode cX9_forgetDead 100 = .ok (.aastore, 1) := by decide +kernel
theorem dX9_forgetDead_101 : decode cX9_forgetDead 101 = .ok (.aload_n 0, 1) := by decide +kernel
theorem dX9_forgetDead_102 : decode cX9_forgetDead 102 = .ok (.getfield 19, 3) := by decide +kernel
theorem dX9_forgetDead_105 : decode cX9_forgetDead 105 = .ok (.aload_n 0, 1) := by decide +kernel
theorem dX9_forgetDead_106 : decode cX9_forgetDead 106 = .ok (.getfield 40, 3) := by decide +kernel
theorem dX9_forgetDead_109 : decode cX9_forgetDead 109 = .ok (.aload 4, 2) := by decide +kernel
theorem dX9_forgetDead_111 : decode cX9_forgetDead 111 = .ok (.aastore, 1) := by decide +kernel
theorem dX9_forgetDead_112 : decode cX9_forgetDead 112 = .ok (.aload_n 0, 1) := by decide +kernel
theorem dX9_forgetDead_113 : decode cX9_forgetDead 113 = .ok (.dup, 1) := by decide +kernel
theorem dX9_forgetDead_114 : decode cX9_forgetDead 114 = .ok (.getfield 40, 3) := by decide +kernel
theorem dX9_forgetDead_117 : decode cX9_forgetDead 117 = .ok (.iconst 1, 1) := by decide +kernel
theorem dX9_forgetDead_118 : decode cX9_forgetDead 118 = .ok (.iadd, 1) := by decide +kernel
theorem dX9_forgetDead_119 : decode cX9_forgetDead 119 = .ok (.putfield 40, 3) := by decide +kernel
theorem dX9_forgetDead_122 : decode cX9_forgetDead 122 = .ok (.iinc 3 1, 3) := by decide +kernel
theorem dX9_forgetDead_125 : decode cX9_forgetDead 125 = .ok (.goto (-72), 3) := by decide +kernel
theorem dX9_forgetDead_128 : decode cX9_forgetDead 128 = .ok (.iload_n 2, 1) := by decide +kernel
theorem dX9_forgetDead_129 : decode cX9_forgetDead 129 = .ok (.aload_n 0, 1) := by decide +kernel
theorem dX9_forgetDead_130 : decode cX9_forgetDead 130 = .ok (.getfield 40, 3) := by decide +kernel
theorem dX9_forgetDead_133 : decode cX9_forgetDead 133 = .ok (.isub, 1) := by decide +kernel
theorem dX9_forgetDead_134 : decode cX9_forgetDead 134 = .ok (.ireturn, 1) := by decide +kernel
set_option maxRecDepth 20000 in
theorem ggX10_init_X0_init : GoodIn wsX10_init wsX0_init := goodIn_r _ [16, 17, 2, 3, 18, 19, 20, 21, 22, 23, 24, 25] (by decide +kernel) (by decide +kernel)
set_option maxRecDepth 20000 in
theorem gX10_init_X0_init : GoodIn wsX10_init (wsX0_init) := ggX10_init_X0_init
theorem dX10_init_0 : decode cX10_init 0 = .ok (.aload_n 0, 1) := by decide +kernel
theorem dX10_init_1 : decode cX10_init 1 = .ok (.invokespecial 3, 3) := by decide +kernel
theorem dX10_init_4 : decode cX10_init 4 = .ok (.aload_n 0, 1) := by decide +kernel
theorem dX10_init_5 : decode cX10_init 5 = .ok (.new 9, 3) := by decide +kernel
theorem dX10_init_8 : decode cX10_init 8 = .ok (.dup, 1) := by decide +kernel
theorem dX10_init_9 : decode cX10_init 9 = .ok (.iconst 4, 1) := by decide +kernel
theorem dX10_init_10 : decode cX10_init 10 = .ok (.iconst 0, 1) := by decide +kernel
theorem dX10_init_11 : decode cX10_init 11 = .ok (.aconst_null, 1) := by decide +kernel
theorem dX10_init_12 : decode cX10_init 12 = .ok (.invokespecial 11, 3) := by decide +kernel
theorem dX10_init_15 : decode cX10_init 15 = .ok (.putfield 14, 3) := by decide +kernel
theorem dX10_init_18 : decode cX10_init 18 = .ok (.aload_n 0, 1) := by decide +kernel
theorem dX10_init_19 : decode cX10_init 19 = .ok (.iconst 4, 1) := by decide +kernel
theorem dX10_init_20 : decode cX10_init 20 = .ok (.anewarray 20, 3) := by decide +kernel
theorem dX10_init_23 : decode cX10_init 23 = .ok (.putfield 22, 3) := by decide +kernel
theorem dX10_init_26 : decode cX10_init 26 = .ok (.aload_n 0, 1) := by decide +kernel
theorem dX10_init_27 : decode cX10_init 27 = .ok (.iconst 3, 1) := by decide +kernel
theorem dX10_init_28 : decode cX10_init 28 = .ok (.newarray .int, 2) := by decide +kernel
theorem dX10_init_30 : decode cX10_init 30 = .ok (.putfield 26, 3) := by decide +kernel
theorem dX10_init_33 : decode cX10_init 33 = .ok (.aload_n 0, 1) := by decide +kernel
theorem dX10_init_34 : decode cX10_init 34 = .ok (.iload_n 1, 1) := by decide +kernel
theorem dX10_init_35 : decode cX10_init 35 = .ok (.putfield 30, 3) := by decide +kernel
theorem dX10_init_38 : decode cX10_init 38 = .ok (.aload_n 0, 1) := by decide +kernel
theorem dX10_init_39 : decode cX10_init 39 = .ok (.iload_n 2, 1) := by decide +kernel
theorem dX10_init_40 : decode cX10_init 40 = .ok (.putfield 34, 3) := by decide +kernel
theorem dX10_init_43 : decode cX10_init 43 = .ok (.return_, 1) := by decide +kernel
set_option maxRecDepth 20000 in
theorem ggX11_init_X9_init : GoodIn wsX11_init wsX9_init := goodIn_r _ [29, 30, 2, 3, 31, 32, 33, 34, 35, 36, 37, 38, 39, 40, 41, 42, 43, 14, 44, 6, 45, 93, 94, 95, 96, 97, 98, 99, 100, 125, 126, 127, 128, 129] (by decide +kernel) (by decide +kernel)
set_option maxRecDepth 20000 in
theorem gX11_init_X9_init_n19 : GoodIn wsX11_init (wsX9_init) := ggX11_init_X9_init
set_option maxRecDepth 20000 in
theorem ggX11_init_X5_init : GoodIn wsX11_init wsX5_init := goodIn_r _ [47, 48, 2, 3, 6, 49, 101, 102, 103, 104, 105, 106, 107, 108] (by decide +kernel) (by decide +kernel)
set_option maxRecDepth 20000 in
theorem gX11_init_X5_init_n37 : GoodIn wsX11_init (wsX5_init) := ggX11_init_X5_init
set_option maxRecDepth 20000 in
theorem ggX11_init_X6_init : GoodIn wsX11_init wsX6_init := goodIn_r _ [52, 53, 2, 3, 54, 55, 56, 57, 58, 59, 60, 61, 6, 62, 63, 109, 110, 111, 112, 113, 114, 115, 116, 130, 131, 132, 133, 134, 135] (by decide +kernel) (by decide +kernel)
set_option maxRecDepth 20000 in
theorem gX11_init_X6_init : GoodIn wsX11_init (wsX6_init) := ggX11_init_X6_init
set_option maxRecDepth 20000 in
theorem ggX11_init_X8_init : GoodIn wsX11_init wsX8_init := goodIn_r _ [66, 67, 2, 3, 68, 69, 70, 71, 72, 73, 74, 6, 75, 76, 17, 18, 77, 78, 79, 80, 46, 47, 48, 49, 136, 137, 138, 117, 118, 119, 120, 121, 122, 123, 124, 101, 102, 103, 104, 105, 106, 107, 108] (by decide +kernel) (by decide +kernel)
set_option maxRecDepth 20000 in
theorem gX11_init_X8_init : GoodIn wsX11_init (wsX8_init) := ggX11_init_X8_init
theorem dX11_init_0 : decode cX11_init 0 = .ok (.aload_n 0, 1) := by decide +kernel
theorem dX11_init_1 : decode cX11_init 1 = .ok (.invokespecial 1, 3) := by decide +kernel
theorem dX11_init_4 : decode cX11_init 4 = .ok (.aload_n 0, 1) := by decide +kernel
theorem dX11_init_5 : decode cX11_init 5 = .ok (.sipush 400, 3) := by decide +kernel
theorem dX11_init_8 : decode cX11_init 8 = .ok (.newarray .byte, 2) := by decide +kernel
theorem dX11_init_10 : decode cX11_init 10 = .ok (.putfield 9, 3) := by decide +kernel
theorem dX11_init_13 : decode cX11_init 13 = .ok (.aload_n 0, 1) := by decide +kernel
theorem dX11_init_14 : decode cX11_init 14 = .ok (.iconst 4, 1) := by decide +kernel
theorem dX11_init_15 : decode cX11_init 15 = .ok (.newarray .int, 2) := by decide +kernel
theorem dX11_init_17 : decode cX11_init 17 = .ok (.putfield 13, 3) := by decide +kernel
theorem dX11_init_20 : decode cX11_init 20 = .ok (.aload_n 0, 1) := by decide +kernel
theorem dX11_init_21 : decode cX11_init 21 = .ok (.new 17, 3) := by decide +kernel
theorem dX11_init_24 : decode cX11_init 24 = .ok (.dup, 1) := by decide +kernel
theorem dX11_init_25 : decode cX11_init 25 = .ok (.invokespecial 19, 3) := by decide +kernel
theorem dX11_init_28 : decode cX11_init 28 = .ok (.putfield 20, 3) := by decide +kernel
theorem dX11_init_31 : decode cX11_init 31 = .ok (.aload_n 0, 1) := by decide +kernel
theorem dX11_init_32 : decode cX11_init 32 = .ok (.bipush 10, 2) := by decide +kernel
theorem dX11_init_34 : decode cX11_init 34 = .ok (.anewarray 24, 3) := by decide +kernel
theorem dX11_init_37 : decode cX11_init 37 = .ok (.putfield 26, 3) := by decide +kernel
theorem dX11_init_40 : decode cX11_init 40 = .ok (.aload_n 0, 1) := by decide +kernel
theorem dX11_init_41 : decode cX11_init 41 = .ok (.bipush 10, 2) := by decide +kernel
theorem dX11_init_43 : decode cX11_init 43 = .ok (.newarray .boolean, 2) := by decide +kernel
theorem dX11_init_45 : decode cX11_init 45 = .ok (.putfield 30, 3) := by decide +kernel
theorem dX11_init_48 : decode cX11_init 48 = .ok (.aload_n 0, 1) := by decide +kernel
theorem dX11_init_49 : decode cX11_init 49 = .ok (.sipush 3000, 3) := by decide +kernel
theorem dX11_init_52 : decode cX11_init 52 = .ok (.newarray .int, 2) := by decide +kernel
theorem dX11_init_54 : decode cX11_init 54 = .ok (.putfield 34, 3) := by decide +kernel
theorem dX11_init_57 : decode cX11_init 57 = .ok (.aload_n 0, 1) := by decide +kernel
theorem dX11_init_58 : decode cX11_init 58 = .ok (.new 24, 3) := by decide +kernel
theorem dX11_init_61 : decode cX11_init 61 = .ok (.dup, 1) := by decide +kernel
theorem dX11_init_62 : decode cX11_init 62 = .ok (.invokespecial 37, 3) := by decide +kernel
theorem dX11_init_65 : decode cX11_init 65 = .ok (.putfield 38, 3) := by decide +kernel
theorem dX11_init_68 : decode cX11_init 68 = .ok (.aload_n 0, 1) := by decide +kernel
theorem dX11_init_69 : decode cX11_init 69 = .ok (.new 42, 3) := by decide +kernel
theorem dX11_init_72 : decode cX11_init 72 = .ok (.dup, 1) := by decide +kernel
theorem dX11_init_73 : decode cX11_init 73 = .ok (.invokespecial 44, 3) := by decide +kernel
theorem dX11_init_76 : decode cX11_init 76 = .ok (.putfield 45, 3) := by decide +kernel
theorem dX11_init_79 : decode cX11_init 79 = .ok (.aload_n 0, 1) := by decide +kernel
theorem dX11_init_80 : decode cX11_init 80 = .ok (.new 49, 3) := by decide +kernel
theorem dX11_init_83 : decode cX11_init 83 = .ok (.dup, 1) := by decide +kernel
theorem dX11_init_84 : decode cX11_init 84 = .ok (.invokespecial 51, 3) := by decide +kernel
theorem dX11_init_87 : decode cX11_init 87 = .ok (.putfield 52, 3) := by decide +kernel
theorem dX11_init_90 : decode cX11_init 90 = .ok (.iconst 0, 1) := by decide +kernel
theorem dX11_init_91 : decode cX11_init 91 = .ok (.istore_n 1, 1) := by decide +kernel
theorem dX11_init_92 : decode cX11_init 92 = .ok (.iload_n 1, 1) := by decide +kernel
theorem dX11_init_93 : decode cX11_init 93 = .ok (.bipush 10, 2) := by decide +kernel
theorem dX11_init_95 : decode cX11_init 95 = .ok (.if_icmp .ge 22, 3) := by decide +kernel
theorem dX11_init_98 : decode cX11_init 98 = .ok (.aload_n 0, 1) := by decide +kernel
theorem dX11_init_99 : decode cX11_init 99 = .ok (.getfield 26, 3) := by decide +kernel
theorem dX11_init_102 : decode cX11_init 102 = .ok (.iload_n 1, 1) := by decide +kernel
theorem dX11_init_103 : decode cX11_init 103 = .ok (.new 24, 3) := by decide +kernel
theorem dX11_init_106 : decode cX11_init 106 = .ok (.dup, 1) := by decide +kernel
theorem dX11_init_107 : decode cX11_init 107 = .ok (.invokespecial 37, 3) := by decide +kernel
theorem dX11_init_110 : decode cX11_init 110 = .ok (.aastore, 1) := by decide +kernel
theorem dX11_init_111 : decode cX11_init 111 = .ok (.iinc 1 1, 3) := by decide +kernel
theorem dX11_init_114 : decode cX11_init 114 = .ok (.goto (-22), 3) := by decide +kernel
theorem dX11_init_117 : decode cX11_init 117 = .ok (.return_, 1) := by decide +kernel
set_option maxRecDepth 20000 in
theorem ggX11_feed_X11_putBytes : GoodIn wsX11_feed wsX11_putBytes := goodIn_r _ [8, 3, 9, 10, 11, 12, 13, 14, 15, 16, 17, 18, 19, 20, 21] (by decide +kernel) (by decide +kernel)
set_option maxRecDepth 20000 in
theorem gX11_feed_X11_putBytes : GoodIn wsX11_feed (wsV RX11 67 RX11 yX11_putBytes wsX11_putBytes) := goodIn_app (goodIn_of _ (by decide +kernel)) ggX11_feed_X11_putBytes
theorem dX11_feed_0 : decode cX11_feed 0 = .ok (.aload_n 0, 1) := by decide +kernel
theorem dX11_feed_1 : decode cX11_feed 1 = .ok (.getfield 56, 3) := by decide +kernel
theorem dX11_feed_4 : decode cX11_feed 4 = .ok (.sipush 380, 3) := by decide +kernel
theorem dX11_feed_7 : decode cX11_feed 7 = .ok (.if_icmp .le 13, 3) := by decide +kernel
theorem dX11_feed_10 : decode cX11_feed 10 = .ok (.new 60, 3) := by decide +kernel
theorem dX11_feed_13 : decode cX11_feed 13 = .ok (.dup, 1) := by decide +kernel
theorem dX11_feed_14 : decode cX11_feed 14 = .ok (.ldc 62, 2) := by decide +kernel
theorem dX11_feed_16 : decode cX11_feed 16 = .ok (.invokespecial 64, 3) := by decide +kernel
theorem dX11_feed_19 : decode cX11_feed 19 = .ok (.athrow, 1) := by decide +kernel
theorem dX11_feed_20 : decode cX11_feed 20 = .ok (.aload_n 0, 1) := by decide +kernel
theorem dX11_feed_21 : decode cX11_feed 21 = .ok (.iload_n 1, 1) := by decide +kernel
theorem dX11_feed_22 : decode cX11_feed 22 = .ok (.invokevirtual 67, 3) := by decide +kernel
theorem dX11_feed_25 : decode cX11_feed 25 = .ok (.aload_n 0, 1) := by decide +kernel
theorem dX11_feed_26 : decode cX11_feed 26 = .ok (.iload_n 2, 1) := by decide +kernel
theorem dX11_feed_27 : decode cX11_feed 27 = .ok (.invokevirtual 67, 3) := by decide +kernel
theorem dX11_feed_30 : decode cX11_feed 30 = .ok (.aload_n 0, 1) := by decide +kernel
theorem dX11_feed_31 : decode cX11_feed 31 = .ok (.iload_n 3, 1) := by decide +kernel
theorem dX11_feed_32 : decode cX11_feed 32 = .ok (.invokevirtual 67, 3) := by decide +kernel
theorem dX11_feed_35 : decode cX11_feed 35 = .ok (.aload_n 0, 1) := by decide +kernel
theorem dX11_feed_36 : decode cX11_feed 36 = .ok (.iload 4, 2) := by decide +kernel
theorem dX11_feed_38 : decode cX11_feed 38 = .ok (.invokevirtual 67, 3) := by decide +kernel
theorem dX11_feed_41 : decode cX11_feed 41 = .ok (.aload_n 0, 1) := by decide +kernel
theorem dX11_feed_42 : decode cX11_feed 42 = .ok (.iload 5, 2) := by decide +kernel
theorem dX11_feed_44 : decode cX11_feed 44 = .ok (.invokevirtual 67, 3) := by decide +kernel
theorem dX11_feed_47 : decode cX11_feed 47 = .ok (.aload_n 0, 1) := by decide +kernel
theorem dX11_feed_48 : decode cX11_feed 48 = .ok (.getfield 56, 3) := by decide +kernel
theorem dX11_feed_51 : decode cX11_feed 51 = .ok (.ireturn, 1) := by decide +kernel
set_option maxRecDepth 20000 in
theorem ggX11_end_X11_requireRange : GoodIn wsX11_end wsX11_requireRange := goodIn_ca (goodIn_r _ [5, 6, 7] (by decide +kernel) (by decide +kernel)) (goodIn_sub (fun _ h => List.mem_cons_of_mem _ (List.mem_append_right _ h)) (by decide +kernel))
set_option maxRecDepth 20000 in
theorem gX11_end_X11_requireRange : GoodIn wsX11_end (va_wsS RX11 71 yX11_requireRange wsX11_requireRange) := goodIn_app (goodIn_of _ (by decide +kernel)) ggX11_end_X11_requireRange
theorem dX11_end_0 : decode cX11_end 0 = .ok (.iload_n 1, 1) := by decide +kernel
theorem dX11_end_1 : decode cX11_end 1 = .ok (.iconst 0, 1) := by decide +kernel
theorem dX11_end_2 : decode cX11_end 2 = .ok (.aload_n 0, 1) := by decide +kernel
theorem dX11_end_3 : decode cX11_end 3 = .ok (.getfield 56, 3) := by decide +kernel
theorem dX11_end_6 : decode cX11_end 6 = .ok (.invokestatic 71, 3) := by decide +kernel
theorem dX11_end_9 : decode cX11_end 9 = .ok (.aload_n 0, 1) := by decide +kernel
theorem dX11_end_10 : decode cX11_end 10 = .ok (.iload_n 1, 1) := by decide +kernel
theorem dX11_end_11 : decode cX11_end 11 = .ok (.putfield 56, 3) := by decide +kernel
theorem dX11_end_14 : decode cX11_end 14 = .ok (.iload_n 1, 1) := by decide +kernel
theorem dX11_end_15 : decode cX11_end 15 = .ok (.ireturn, 1) := by decide +kernel
set_option maxRecDepth 20000 in
theorem ggX11_value_X11_requireRange : GoodIn wsX11_value wsX11_requireRange := goodIn_ca (goodIn_r _ [5, 6, 7] (by decide +kernel) (by decide +kernel)) (goodIn_sub (fun _ h => List.mem_cons_of_mem _ (List.mem_append_right _ h)) (by decide +kernel))
set_option maxRecDepth 20000 in
theorem gX11_value_X11_requireRange : GoodIn wsX11_value (va_wsS RX11 71 yX11_requireRange wsX11_requireRange) := goodIn_app (goodIn_of _ (by decide +kernel)) ggX11_value_X11_requireRange
theorem dX11_value_0 : decode cX11_value 0 = .ok (.iload_n 1, 1) := by decide +kernel
theorem dX11_value_1 : decode cX11_value 1 = .ok (.iconst 0, 1) := by decide +kernel
theorem dX11_value_2 : decode cX11_value 2 = .ok (.iconst 3, 1) := by decide +kernel
theorem dX11_value_3 : decode cX11_value 3 = .ok (.invokestatic 71, 3) := by decide +kernel
theorem dX11_value_6 : decode cX11_value 6 = .ok (.aload_n 0, 1) := by decide +kernel
theorem dX11_value_7 : decode cX11_value 7 = .ok (.getfield 13, 3) := by decide +kernel
theorem dX11_value_10 : decode cX11_value 10 = .ok (.iload_n 1, 1) := by decide +kernel
theorem dX11_value_11 : decode cX11_value 11 = .ok (.iaload, 1) := by decide +kernel
theorem dX11_value_12 : decode cX11_value 12 = .ok (.istore_n 3, 1) := by decide +kernel
theorem dX11_value_13 : decode cX11_value 13 = .ok (.aload_n 0, 1) := by decide +kernel
theorem dX11_value_14 : decode cX11_value 14 = .ok (.getfield 13, 3) := by decide +kernel
theorem dX11_value_17 : decode cX11_value 17 = .ok (.iload_n 1, 1) := by decide +kernel
theorem dX11_value_18 : decode cX11_value 18 = .ok (.iload_n 2, 1) := by decide +kernel
theorem dX11_value_19 : decode cX11_value 19 = .ok (.iastore, 1) := by decide +kernel
theorem dX11_value_20 : decode cX11_value 20 = .ok (.iload_n 3, 1) := by decide +kernel
theorem dX11_value_21 : decode cX11_value 21 = .ok (.ireturn, 1) := by decide +kernel
set_option maxRecDepth 20000 in
theorem ggX11_table_X11_requireRange : GoodIn wsX11_table wsX11_requireRange := goodIn_ca (goodIn_r _ [7, 8, 9] (by decide +kernel) (by decide +kernel)) (goodIn_sub (fun _ h => List.mem_cons_of_mem _ (List.mem_append_right _ h)) (by decide +kernel))
set_option maxRecDepth 20000 in
theorem gX11_table_X11_requireRange : GoodIn wsX11_table (va_wsS RX11 71 yX11_requireRange wsX11_requireRange) := goodIn_app (goodIn_of _ (by decide +kernel)) ggX11_table_X11_requireRange
set_option maxRecDepth 20000 in
theorem ggX11_table_X9_makeTable : GoodIn wsX11_table wsX9_makeTable := goodIn_r _ [14, 15, 16, 17, 18, 19, 20, 21, 22, 23, 24, 25, 26, 27, 28, 29, 30, 31, 32, 33, 34, 35, 36, 37, 38, 39, 40, 41, 42, 55, 56, 57, 58, 59, 60, 61, 62, 63, 64, 65, 66, 67, 68, 69, 70, 71, 72, 73] (by decide +kernel) (by decide +kernel)
set_option maxRecDepth 20000 in
theorem gX11_table_X9_makeTable : GoodIn wsX11_table (wsV RX11 75 RX9 yX9_makeTable wsX9_makeTable) := goodIn_app (goodIn_of _ (by decide +kernel)) ggX11_table_X9_makeTable
theorem dX11_table_0 : decode cX11_table 0 = .ok (.iload_n 1, 1) := by decide +kernel
theorem dX11_table_1 : decode cX11_table 1 = .ok (.iconst 1, 1) := by decide +kernel
theorem dX11_table_2 : decode cX11_table 2 = .ok (.iconst 4, 1) := by decide +kernel
theorem dX11_table_3 : decode cX11_table 3 = .ok (.invokestatic 71, 3) := by decide +kernel
theorem dX11_table_6 : decode cX11_table 6 = .ok (.aload_n 0, 1) := by decide +kernel
theorem dX11_table_7 : decode cX11_table 7 = .ok (.getfield 20, 3) := by decide +kernel
theorem dX11_table_10 : decode cX11_table 10 = .ok (.iload_n 1, 1) := by decide +kernel
theorem dX11_table_11 : decode cX11_table 11 = .ok (.invokevirtual 75, 3) := by decide +kernel
theorem dX11_table_14 : decode cX11_table 14 = .ok (.istore_n 2, 1) := by decide +kernel
theorem dX11_table_15 : decode cX11_table 15 = .ok (.iload_n 2, 1) := by decide +kernel
theorem dX11_table_16 : decode cX11_table 16 = .ok (.iconst (-1), 1) := by decide +kernel
theorem dX11_table_17 : decode cX11_table 17 = .ok (.if_icmp .ne 13, 3) := by decide +kernel
theorem dX11_table_20 : decode cX11_table 20 = .ok (.new 79, 3) := by decide +kernel
theorem dX11_table_23 : decode cX11_table 23 = .ok (.dup, 1) := by decide +kernel
theorem dX11_table_24 : decode cX11_table 24 = .ok (.ldc 81, 2) := by decide +kernel
theorem dX11_table_26 : decode cX11_table 26 = .ok (.invokespecial 83, 3) := by decide +kernel
theorem dX11_table_29 : decode cX11_table 29 = .ok (.athrow, 1) := by decide +kernel
theorem dX11_table_30 : decode cX11_table 30 = .ok (.iload_n 2, 1) := by decide +kernel
theorem dX11_table_31 : decode cX11_table 31 = .ok (.ireturn, 1) := by decide +kernel
set_option maxRecDepth 20000 in
theorem ggX11_index_X11_tableOf : GoodIn wsX11_index wsX11_tableOf := goodIn_ca (goodIn_r _ [6, 7, 8, 9, 10, 11, 12, 13, 14, 15, 16, 85, 86, 87, 88, 89, 90, 91, 92, 93, 94, 95, 96, 97, 98, 99, 100, 101, 102, 103, 104] (by decide +kernel) (by decide +kernel)) (goodIn_sub (fun _ h => List.mem_cons_of_mem _ (List.mem_append_left _ (List.mem_append_right _ h))) (by decide +kernel))
set_option maxRecDepth 20000 in
theorem gX11_index_X11_tableOf : GoodIn wsX11_index (wsV RX11 84 RX11 yX11_tableOf wsX11_tableOf) := goodIn_app (goodIn_of _ (by decide +kernel)) ggX11_index_X11_tableOf
set_option maxRecDepth 20000 in
theorem ggX11_index_X11_requireRange : GoodIn wsX11_index wsX11_requireRange := goodIn_ca (goodIn_r _ [19, 20, 21] (by decide +kernel) (by decide +kernel)) (goodIn_sub (fun _ h => List.mem_cons_of_mem _ (List.mem_append_right _ h)) (by decide +kernel))
set_option maxRecDepth 20000 in
theorem gX11_index_X11_requireRange : GoodIn wsX11_index (va_wsS RX11 71 yX11_requireRange wsX11_requireRange) := goodIn_app (goodIn_of _ (by decide +kernel)) ggX11_index_X11_requireRange
theorem dX11_index_0 : decode cX11_index 0 = .ok (.aload_n 0, 1) := by decide +kernel
theorem dX11_index_1 : decode cX11_index 1 = .ok (.iload_n 1, 1) := by decide +kernel
theorem dX11_index_2 : decode cX11_index 2 = .ok (.invokevirtual 84, 3) := by decide +kernel
theorem dX11_index_5 : decode cX11_index 5 = .ok (.astore_n 3, 1) := by decide +kernel
theorem dX11_index_6 : decode cX11_index 6 = .ok (.iload_n 2, 1) := by decide +kernel
theorem dX11_index_7 : decode cX11_index 7 = .ok (.iconst 0, 1) := by decide +kernel
theorem dX11_index_8 : decode cX11_index 8 = .ok (.aload_n 3, 1) := by decide +kernel
theorem dX11_index_9 : decode cX11_index 9 = .ok (.getfield 88, 3) := by decide +kernel
theorem dX11_index_12 : decode cX11_index 12 = .ok (.iconst 1, 1) := by decide +kernel
theorem dX11_index_13 : decode cX11_index 13 = .ok (.isub, 1) := by decide +kernel
theorem dX11_index_14 : decode cX11_index 14 = .ok (.invokestatic 71, 3) := by decide +kernel
theorem dX11_index_17 : decode cX11_index 17 = .ok (.aload_n 3, 1) := by decide +kernel
theorem dX11_index_18 : decode cX11_index 18 = .ok (.iload_n 2, 1) := by decide +kernel
theorem dX11_index_19 : decode cX11_index 19 = .ok (.invokevirtual 93, 3) := by decide +kernel
theorem dX11_index_22 : decode cX11_index 22 = .ok (.ifCond .eq 7, 3) := by decide +kernel
theorem dX11_index_25 : decode cX11_index 25 = .ok (.iconst 1, 1) := by decide +kernel
theorem dX11_index_26 : decode cX11_index 26 = .ok (.goto 4, 3) := by decide +kernel
theorem dX11_index_29 : decode cX11_index 29 = .ok (.iconst 0, 1) := by decide +kernel
theorem dX11_index_30 : decode cX11_index 30 = .ok (.ireturn, 1) := by decide +kernel
set_option maxRecDepth 20000 in
theorem ggX11_key_X11_tableOf : GoodIn wsX11_key wsX11_tableOf := goodIn_ca (goodIn_r _ [9, 10, 11, 12, 13, 14, 15, 16, 17, 18, 19, 65, 66, 67, 68, 69, 70, 71, 72, 73, 74, 75, 76, 77, 78, 79, 80, 81, 82, 83, 84] (by decide +kernel) (by decide +kernel)) (goodIn_sub (fun _ h => List.mem_cons_of_mem _ (List.mem_append_left _ (List.mem_append_right _ h))) (by decide +kernel))
set_option maxRecDepth 20000 in
theorem gX11_key_X11_tableOf : GoodIn wsX11_key (wsV RX11 84 RX11 yX11_tableOf wsX11_tableOf) := goodIn_app (goodIn_of _ (by decide +kernel)) ggX11_key_X11_tableOf
set_option maxRecDepth 20000 in
theorem ggX11_key_X11_requireRange : GoodIn wsX11_key wsX11_requireRange := goodIn_ca (goodIn_r _ [28, 29, 30] (by decide +kernel) (by decide +kernel)) (goodIn_sub (fun _ h => List.mem_cons_of_mem _ (List.mem_append_right _ h)) (by decide +kernel))
set_option maxRecDepth 20000 in
theorem gX11_key_X11_requireRange : GoodIn wsX11_key (va_wsS RX11 71 yX11_requireRange wsX11_requireRange) := goodIn_app (goodIn_of _ (by decide +kernel)) ggX11_key_X11_requireRange
theorem dX11_key_0 : decode cX11_key 0 = .ok (.aload_n 0, 1) := by decide +kernel
theorem dX11_key_1 : decode cX11_key 1 = .ok (.iload_n 1, 1) := by decide +kernel
theorem dX11_key_2 : decode cX11_key 2 = .ok (.invokevirtual 84, 3) := by decide +kernel
theorem dX11_key_5 : decode cX11_key 5 = .ok (.astore_n 3, 1) := by decide +kernel
theorem dX11_key_6 : decode cX11_key 6 = .ok (.iload_n 2, 1) := by decide +kernel
theorem dX11_key_7 : decode cX11_key 7 = .ok (.iconst 1, 1) := by decide +kernel
theorem dX11_key_8 : decode cX11_key 8 = .ok (.aload_n 3, 1) := by decide +kernel
theorem dX11_key_9 : decode cX11_key 9 = .ok (.invokevirtual 97, 3) := by decide +kernel
theorem dX11_key_12 : decode cX11_key 12 = .ok (.invokestatic 71, 3) := by decide +kernel
theorem dX11_key_15 : decode cX11_key 15 = .ok (.aload_n 3, 1) := by decide +kernel
theorem dX11_key_16 : decode cX11_key 16 = .ok (.iload_n 2, 1) := by decide +kernel
theorem dX11_key_17 : decode cX11_key 17 = .ok (.invokevirtual 101, 3) := by decide +kernel
theorem dX11_key_20 : decode cX11_key 20 = .ok (.ifCond .eq 13, 3) := by decide +kernel
theorem dX11_key_23 : decode cX11_key 23 = .ok (.new 79, 3) := by decide +kernel
theorem dX11_key_26 : decode cX11_key 26 = .ok (.dup, 1) := by decide +kernel
theorem dX11_key_27 : decode cX11_key 27 = .ok (.ldc 104, 2) := by decide +kernel
theorem dX11_key_29 : decode cX11_key 29 = .ok (.invokespecial 83, 3) := by decide +kernel
theorem dX11_key_32 : decode cX11_key 32 = .ok (.athrow, 1) := by decide +kernel
theorem dX11_key_33 : decode cX11_key 33 = .ok (.aload_n 3, 1) := by decide +kernel
theorem dX11_key_34 : decode cX11_key 34 = .ok (.iload_n 2, 1) := by decide +kernel
theorem dX11_key_35 : decode cX11_key 35 = .ok (.invokevirtual 106, 3) := by decide +kernel
theorem dX11_key_38 : decode cX11_key 38 = .ok (.ifCond .eq 5, 3) := by decide +kernel
theorem dX11_key_41 : decode cX11_key 41 = .ok (.iconst 0, 1) := by decide +kernel
theorem dX11_key_42 : decode cX11_key 42 = .ok (.ireturn, 1) := by decide +kernel
theorem dX11_key_43 : decode cX11_key 43 = .ok (.aload_n 3, 1) := by decide +kernel
theorem dX11_key_44 : decode cX11_key 44 = .ok (.iload_n 2, 1) := by decide +kernel
theorem dX11_key_45 : decode cX11_key 45 = .ok (.invokevirtual 109, 3) := by decide +kernel
theorem dX11_key_48 : decode cX11_key 48 = .ok (.ifCond .ne 13, 3) := by decide +kernel
theorem dX11_key_51 : decode cX11_key 51 = .ok (.new 60, 3) := by decide +kernel
theorem dX11_key_54 : decode cX11_key 54 = .ok (.dup, 1) := by decide +kernel
theorem dX11_key_55 : decode cX11_key 55 = .ok (.ldc 112, 2) := by decide +kernel
theorem dX11_key_57 : decode cX11_key 57 = .ok (.invokespecial 64, 3) := by decide +kernel
theorem dX11_key_60 : decode cX11_key 60 = .ok (.athrow, 1) := by decide +kernel
theorem dX11_key_61 : decode cX11_key 61 = .ok (.iconst 1, 1) := by decide +kernel
theorem dX11_key_62 : decode cX11_key 62 = .ok (.ireturn, 1) := by decide +kernel
set_option maxRecDepth 20000 in
theorem ggX11_add_X11_requireRange : GoodIn wsX11_add wsX11_requireRange := goodIn_ca (goodIn_r _ [11, 12, 13] (by decide +kernel) (by decide +kernel)) (goodIn_sub (fun _ h => List.mem_cons_of_mem _ (List.mem_append_left _ (List.mem_append_right _ h))) (by decide +kernel))
set_option maxRecDepth 20000 in
theorem gX11_add_X11_requireRange : GoodIn wsX11_add (va_wsS RX11 71 yX11_requireRange wsX11_requireRange) := goodIn_app (goodIn_of _ (by decide +kernel)) ggX11_add_X11_requireRange
set_option maxRecDepth 20000 in
theorem ggX11_add_X11_tableOf : GoodIn wsX11_add wsX11_tableOf := goodIn_ca (goodIn_r _ [17, 18, 19, 6, 20, 21, 22, 23, 24, 25, 26, 137, 138, 139, 140, 141, 142, 143, 144, 145, 146, 147, 148, 156, 157, 158, 159, 160, 161, 162, 163] (by decide +kernel) (by decide +kernel)) (goodIn_sub (fun _ h => List.mem_cons_of_mem _ (List.mem_append_right _ h)) (by decide +kernel))
set_option maxRecDepth 20000 in
theorem gX11_add_X11_tableOf : GoodIn wsX11_add (wsV RX11 84 RX11 yX11_tableOf wsX11_tableOf) := goodIn_app (goodIn_of _ (by decide +kernel)) ggX11_add_X11_tableOf
theorem dX11_add_0 : decode cX11_add 0 = .ok (.iload_n 2, 1) := by decide +kernel
theorem dX11_add_1 : decode cX11_add 1 = .ok (.iconst 0, 1) := by decide +kernel
theorem dX11_add_2 : decode cX11_add 2 = .ok (.iconst 1, 1) := by decide +kernel
theorem dX11_add_3 : decode cX11_add 3 = .ok (.invokestatic 71, 3) := by decide +kernel
theorem dX11_add_6 : decode cX11_add 6 = .ok (.aload_n 0, 1) := by decide +kernel
theorem dX11_add_7 : decode cX11_add 7 = .ok (.iload_n 1, 1) := by decide +kernel
theorem dX11_add_8 : decode cX11_add 8 = .ok (.invokevirtual 84, 3) := by decide +kernel
theorem dX11_add_11 : decode cX11_add 11 = .ok (.astore_n 3, 1) := by decide +kernel
theorem dX11_add_12 : decode cX11_add 12 = .ok (.aload_n 3, 1) := by decide +kernel
theorem dX11_add_13 : decode cX11_add 13 = .ok (.aload_n 0, 1) := by decide +kernel
theorem dX11_add_14 : decode cX11_add 14 = .ok (.getfield 13, 3) := by decide +kernel
theorem dX11_add_17 : decode cX11_add 17 = .ok (.invokevirtual 114, 3) := by decide +kernel
theorem dX11_add_20 : decode cX11_add 20 = .ok (.ifCond .eq 13, 3) := by decide +kernel
theorem dX11_add_23 : decode cX11_add 23 = .ok (.new 118, 3) := by decide +kernel
theorem dX11_add_26 : decode cX11_add 26 = .ok (.dup, 1) := by decide +kernel
theorem dX11_add_27 : decode cX11_add 27 = .ok (.ldc 120, 2) := by decide +kernel
theorem dX11_add_29 : decode cX11_add 29 = .ok (.invokespecial 122, 3) := by decide +kernel
theorem dX11_add_32 : decode cX11_add 32 = .ok (.athrow, 1) := by decide +kernel
theorem dX11_add_33 : decode cX11_add 33 = .ok (.aload_n 0, 1) := by decide +kernel
theorem dX11_add_34 : decode cX11_add 34 = .ok (.getfield 20, 3) := by decide +kernel
theorem dX11_add_37 : decode cX11_add 37 = .ok (.aload_n 3, 1) := by decide +kernel
theorem dX11_add_38 : decode cX11_add 38 = .ok (.aload_n 0, 1) := by decide +kernel
theorem dX11_add_39 : decode cX11_add 39 = .ok (.getfield 13, 3) := by decide +kernel
theorem dX11_add_42 : decode cX11_add 42 = .ok (.invokevirtual 123, 3) := by decide +kernel
theorem dX11_add_45 : decode cX11_add 45 = .ok (.astore 4, 2) := by decide +kernel
theorem dX11_add_47 : decode cX11_add 47 = .ok (.aload 4, 2) := by decide +kernel
theorem dX11_add_49 : decode cX11_add 49 = .ok (.ifnonnull 13, 3) := by decide +kernel
theorem dX11_add_52 : decode cX11_add 52 = .ok (.new 79, 3) := by decide +kernel
theorem dX11_add_55 : decode cX11_add 55 = .ok (.dup, 1) := by decide +kernel
theorem dX11_add_56 : decode cX11_add 56 = .ok (.ldc 127, 2) := by decide +kernel
theorem dX11_add_58 : decode cX11_add 58 = .ok (.invokespecial 83, 3) := by decide +kernel
theorem dX11_add_61 : decode cX11_add 61 = .ok (.athrow, 1) := by decide +kernel
theorem dX11_add_62 : decode cX11_add 62 = .ok (.aload_n 3, 1) := by decide +kernel
theorem dX11_add_63 : decode cX11_add 63 = .ok (.aload 4, 2) := by decide +kernel
theorem dX11_add_65 : decode cX11_add 65 = .ok (.iload_n 2, 1) := by decide +kernel
theorem dX11_add_66 : decode cX11_add 66 = .ok (.iconst 1, 1) := by decide +kernel
theorem dX11_add_67 : decode cX11_add 67 = .ok (.if_icmp .ne 7, 3) := by decide +kernel
theorem dX11_add_70 : decode cX11_add 70 = .ok (.iconst 1, 1) := by decide +kernel
theorem dX11_add_71 : decode cX11_add 71 = .ok (.goto 4, 3) := by decide +kernel
theorem dX11_add_74 : decode cX11_add 74 = .ok (.iconst 0, 1) := by decide +kernel
theorem dX11_add_75 : decode cX11_add 75 = .ok (.invokevirtual 129, 3) := by decide +kernel
theorem dX11_add_78 : decode cX11_add 78 = .ok (.aload 4, 2) := by decide +kernel
theorem dX11_add_80 : decode cX11_add 80 = .ok (.getfield 133, 3) := by decide +kernel
theorem dX11_add_83 : decode cX11_add 83 = .ok (.ireturn, 1) := by decide +kernel
set_option maxRecDepth 20000 in
theorem ggX11_remove_X11_requireRange : GoodIn wsX11_remove wsX11_requireRange := goodIn_ca (goodIn_r _ [6, 7, 8] (by decide +kernel) (by decide +kernel)) (goodIn_sub (fun _ h => List.mem_cons_of_mem _ (List.mem_append_left _ (List.mem_append_right _ h))) (by decide +kernel))
set_option maxRecDepth 20000 in
theorem gX11_remove_X11_requireRange : GoodIn wsX11_remove (va_wsS RX11 71 yX11_requireRange wsX11_requireRange) := goodIn_app (goodIn_of _ (by decide +kernel)) ggX11_remove_X11_requireRange
set_option maxRecDepth 20000 in
theorem ggX11_remove_X11_beginLook : GoodIn wsX11_remove wsX11_beginLook := goodIn_ca (goodIn_ca (goodIn_r _ [12, 13, 14, 15, 16, 17, 5, 18, 3, 4, 6, 7, 8, 19, 20, 21, 22, 23, 24, 25, 26, 27, 28, 29, 30, 31, 32, 33, 34, 35, 36, 37, 38, 39, 40, 41, 42, 43, 44, 45, 46, 47, 48, 49, 50, 51, 52, 53, 54, 55, 56, 57, 58, 59, 60, 61, 131, 132, 133, 134, 135, 136, 137, 138, 139, 140, 141, 142, 143, 144, 145, 146, 147, 148, 149, 150, 151, 152, 153, 154, 155, 156, 157, 158, 159, 160, 161, 162, 163, 164] (by decide +kernel) (by decide +kernel)) (goodIn_sub (fun _ h => List.mem_cons_of_mem _ (List.mem_append_left _ (List.mem_append_right _ h))) (by decide +kernel))) (goodIn_sub (fun _ h => List.mem_cons_of_mem _ (List.mem_append_right _ h)) (by decide +kernel))
set_option maxRecDepth 20000 in
theorem gX11_remove_X11_beginLook : GoodIn wsX11_remove (wsV RX11 138 RX11 yX11_beginLook wsX11_beginLook) := goodIn_app (goodIn_of _ (by decide +kernel)) ggX11_remove_X11_beginLook
theorem dX11_remove_0 : decode cX11_remove 0 = .ok (.iload_n 3, 1) := by decide +kernel
theorem dX11_remove_1 : decode cX11_remove 1 = .ok (.iconst 0, 1) := by decide +kernel
theorem dX11_remove_2 : decode cX11_remove 2 = .ok (.iconst 1, 1) := by decide +kernel
theorem dX11_remove_3 : decode cX11_remove 3 = .ok (.invokestatic 71, 3) := by decide +kernel
theorem dX11_remove_6 : decode cX11_remove 6 = .ok (.aload_n 0, 1) := by decide +kernel
theorem dX11_remove_7 : decode cX11_remove 7 = .ok (.aload_n 0, 1) := by decide +kernel
theorem dX11_remove_8 : decode cX11_remove 8 = .ok (.getfield 38, 3) := by decide +kernel
theorem dX11_remove_11 : decode cX11_remove 11 = .ok (.iload_n 1, 1) := by decide +kernel
theorem dX11_remove_12 : decode cX11_remove 12 = .ok (.iload_n 2, 1) := by decide +kernel
theorem dX11_remove_13 : decode cX11_remove 13 = .ok (.iconst (-1), 1) := by decide +kernel
theorem dX11_remove_14 : decode cX11_remove 14 = .ok (.invokevirtual 138, 3) := by decide +kernel
theorem dX11_remove_17 : decode cX11_remove 17 = .ok (.iload_n 3, 1) := by decide +kernel
theorem dX11_remove_18 : decode cX11_remove 18 = .ok (.ifCond .ne 10, 3) := by decide +kernel
theorem dX11_remove_21 : decode cX11_remove 21 = .ok (.aload_n 0, 1) := by decide +kernel
theorem dX11_remove_22 : decode cX11_remove 22 = .ok (.invokevirtual 142, 3) := by decide +kernel
theorem dX11_remove_25 : decode cX11_remove 25 = .ok (.goto 7, 3) := by decide +kernel
theorem dX11_remove_28 : decode cX11_remove 28 = .ok (.aload_n 0, 1) := by decide +kernel
theorem dX11_remove_29 : decode cX11_remove 29 = .ok (.invokevirtual 145, 3) := by decide +kernel
theorem dX11_remove_32 : decode cX11_remove 32 = .ok (.istore 4, 2) := by decide +kernel
theorem dX11_remove_34 : decode cX11_remove 34 = .ok (.aload_n 0, 1) := by decide +kernel
theorem dX11_remove_35 : decode cX11_remove 35 = .ok (.aload_n 0, 1) := by decide +kernel
theorem dX11_remove_36 : decode cX11_remove 36 = .ok (.getfield 38, 3) := by decide +kernel
theorem dX11_remove_39 : decode cX11_remove 39 = .ok (.invokevirtual 148, 3) := by decide +kernel
theorem dX11_remove_42 : decode cX11_remove 42 = .ok (.putfield 151, 3) := by decide +kernel
theorem dX11_remove_45 : decode cX11_remove 45 = .ok (.iload 4, 2) := by decide +kernel
theorem dX11_remove_47 : decode cX11_remove 47 = .ok (.ireturn, 1) := by decide +kernel
set_option maxRecDepth 20000 in
theorem ggX11_find_X11_beginLook : GoodIn wsX11_find wsX11_beginLook := goodIn_ca (goodIn_ca (goodIn_r _ [7, 8, 9, 10, 11, 12, 6, 13, 14, 15, 16, 17, 18, 19, 20, 21, 22, 23, 24, 25, 26, 27, 28, 29, 30, 31, 32, 33, 34, 35, 36, 37, 38, 39, 40, 41, 42, 43, 44, 45, 46, 47, 48, 49, 50, 51, 52, 53, 54, 55, 56, 57, 58, 59, 60, 61, 108, 109, 110, 111, 112, 113, 114, 115, 116, 117, 118, 119, 120, 121, 122, 123, 124, 125, 126, 127, 128, 129, 130, 131, 132, 133, 134, 135, 136, 137, 138, 139, 140, 141] (by decide +kernel) (by decide +kernel)) (goodIn_sub (fun _ h => List.mem_cons_of_mem _ (List.mem_append_left _ (List.mem_append_right _ h))) (by decide +kernel))) (goodIn_sub (fun _ h => List.mem_cons_of_mem _ (List.mem_append_right _ h)) (by decide +kernel))
set_option maxRecDepth 20000 in
theorem gX11_find_X11_beginLook : GoodIn wsX11_find (wsV RX11 138 RX11 yX11_beginLook wsX11_beginLook) := goodIn_app (goodIn_of _ (by decide +kernel)) ggX11_find_X11_beginLook
theorem dX11_find_0 : decode cX11_find 0 = .ok (.aload_n 0, 1) := by decide +kernel
theorem dX11_find_1 : decode cX11_find 1 = .ok (.aload_n 0, 1) := by decide +kernel
theorem dX11_find_2 : decode cX11_find 2 = .ok (.getfield 38, 3) := by decide +kernel
theorem dX11_find_5 : decode cX11_find 5 = .ok (.iload_n 1, 1) := by decide +kernel
theorem dX11_find_6 : decode cX11_find 6 = .ok (.iload_n 2, 1) := by decide +kernel
theorem dX11_find_7 : decode cX11_find 7 = .ok (.iload_n 3, 1) := by decide +kernel
theorem dX11_find_8 : decode cX11_find 8 = .ok (.invokevirtual 138, 3) := by decide +kernel
theorem dX11_find_11 : decode cX11_find 11 = .ok (.aload_n 0, 1) := by decide +kernel
theorem dX11_find_12 : decode cX11_find 12 = .ok (.getfield 38, 3) := by decide +kernel
theorem dX11_find_15 : decode cX11_find 15 = .ok (.invokevirtual 154, 3) := by decide +kernel
theorem dX11_find_18 : decode cX11_find 18 = .ok (.astore 4, 2) := by decide +kernel
theorem dX11_find_20 : decode cX11_find 20 = .ok (.aload_n 0, 1) := by decide +kernel
theorem dX11_find_21 : decode cX11_find 21 = .ok (.aload_n 0, 1) := by decide +kernel
theorem dX11_find_22 : decode cX11_find 22 = .ok (.getfield 38, 3) := by decide +kernel
theorem dX11_find_25 : decode cX11_find 25 = .ok (.invokevirtual 148, 3) := by decide +kernel
theorem dX11_find_28 : decode cX11_find 28 = .ok (.putfield 151, 3) := by decide +kernel
theorem dX11_find_31 : decode cX11_find 31 = .ok (.aload 4, 2) := by decide +kernel
theorem dX11_find_33 : decode cX11_find 33 = .ok (.invokestatic 158, 3) := by decide +kernel
theorem dX11_find_36 : decode cX11_find 36 = .ok (.ireturn, 1) := by decide +kernel
set_option maxRecDepth 20000 in
theorem ggX11_many_X11_beginLook : GoodIn wsX11_many wsX11_beginLook := goodIn_ca (goodIn_ca (goodIn_r _ [7, 8, 9, 10, 11, 12, 6, 13, 14, 15, 16, 17, 18, 19, 20, 21, 22, 23, 24, 25, 26, 27, 28, 29, 30, 31, 32, 33, 34, 35, 36, 37, 38, 39, 40, 41, 42, 43, 44, 45, 46, 47, 48, 49, 50, 51, 52, 53, 54, 55, 56, 57, 58, 59, 60, 61, 104, 105, 106, 107, 108, 109, 110, 111, 112, 113, 114, 115, 116, 117, 118, 119, 120, 121, 122, 123, 124, 125, 126, 127, 128, 129, 130, 131, 132, 133, 134, 135, 136, 137] (by decide +kernel) (by decide +kernel)) (goodIn_sub (fun _ h => List.mem_cons_of_mem _ (List.mem_append_left _ (List.mem_append_right _ h))) (by decide +kernel))) (goodIn_sub (fun _ h => List.mem_cons_of_mem _ (List.mem_append_right _ h)) (by decide +kernel))
set_option maxRecDepth 20000 in
theorem gX11_many_X11_beginLook : GoodIn wsX11_many (wsV RX11 138 RX11 yX11_beginLook wsX11_beginLook) := goodIn_app (goodIn_of _ (by decide +kernel)) ggX11_many_X11_beginLook
theorem dX11_many_0 : decode cX11_many 0 = .ok (.aload_n 0, 1) := by decide +kernel
theorem dX11_many_1 : decode cX11_many 1 = .ok (.aload_n 0, 1) := by decide +kernel
theorem dX11_many_2 : decode cX11_many 2 = .ok (.getfield 38, 3) := by decide +kernel
theorem dX11_many_5 : decode cX11_many 5 = .ok (.iload_n 1, 1) := by decide +kernel
theorem dX11_many_6 : decode cX11_many 6 = .ok (.iload_n 2, 1) := by decide +kernel
theorem dX11_many_7 : decode cX11_many 7 = .ok (.iload_n 3, 1) := by decide +kernel
theorem dX11_many_8 : decode cX11_many 8 = .ok (.invokevirtual 138, 3) := by decide +kernel
theorem dX11_many_11 : decode cX11_many 11 = .ok (.iconst 0, 1) := by decide +kernel
theorem dX11_many_12 : decode cX11_many 12 = .ok (.istore 4, 2) := by decide +kernel
theorem dX11_many_14 : decode cX11_many 14 = .ok (.iload 4, 2) := by decide +kernel
theorem dX11_many_16 : decode cX11_many 16 = .ok (.sipush 3000, 3) := by decide +kernel
theorem dX11_many_19 : decode cX11_many 19 = .ok (.if_icmp .ge 19, 3) := by decide +kernel
theorem dX11_many_22 : decode cX11_many 22 = .ok (.aload_n 0, 1) := by decide +kernel
theorem dX11_many_23 : decode cX11_many 23 = .ok (.getfield 38, 3) := by decide +kernel
theorem dX11_many_26 : decode cX11_many 26 = .ok (.invokevirtual 154, 3) := by decide +kernel
theorem dX11_many_29 : decode cX11_many 29 = .ok (.ifnull 9, 3) := by decide +kernel
theorem dX11_many_32 : decode cX11_many 32 = .ok (.iinc 4 1, 3) := by decide +kernel
theorem dX11_many_35 : decode cX11_many 35 = .ok (.goto (-21), 3) := by decide +kernel
theorem dX11_many_38 : decode cX11_many 38 = .ok (.aload_n 0, 1) := by decide +kernel
theorem dX11_many_39 : decode cX11_many 39 = .ok (.aload_n 0, 1) := by decide +kernel
theorem dX11_many_40 : decode cX11_many 40 = .ok (.getfield 38, 3) := by decide +kernel
theorem dX11_many_43 : decode cX11_many 43 = .ok (.invokevirtual 148, 3) := by decide +kernel
theorem dX11_many_46 : decode cX11_many 46 = .ok (.putfield 151, 3) := by decide +kernel
theorem dX11_many_49 : decode cX11_many 49 = .ok (.iload 4, 2) := by decide +kernel
theorem dX11_many_51 : decode cX11_many 51 = .ok (.ireturn, 1) := by decide +kernel
set_option maxRecDepth 20000 in
theorem ggX11_open_X11_requireLook : GoodIn wsX11_open wsX11_requireLook := goodIn_ca (goodIn_ca (goodIn_r _ [9, 10, 11, 8, 12, 13, 14, 15, 16, 17, 18, 19, 20, 21, 22, 23, 24, 25, 26, 27, 28, 29, 30, 31, 32, 33, 34, 68, 69, 70, 71, 72, 73, 74, 75, 76, 77, 78, 79, 80, 81, 82, 83, 84, 85, 86, 87] (by decide +kernel) (by decide +kernel)) (goodIn_sub (fun _ h => List.mem_cons_of_mem _ (List.mem_append_left _ (List.mem_append_right _ h))) (by decide +kernel))) (goodIn_sub (fun _ h => List.mem_cons_of_mem _ (List.mem_append_right _ h)) (by decide +kernel))
set_option maxRecDepth 20000 in
theorem gX11_open_X11_requireLook : GoodIn wsX11_open (wsV RX11 162 RX11 yX11_requireLook wsX11_requireLook) := goodIn_app (goodIn_of _ (by decide +kernel)) ggX11_open_X11_requireLook
set_option maxRecDepth 20000 in
theorem ggX11_open_X11_beginLook : GoodIn wsX11_open wsX11_beginLook := goodIn_ca (goodIn_ca (goodIn_r _ [42, 43, 19, 5, 6, 7, 8, 9, 10, 11, 12, 13, 14, 15, 16, 17, 18, 20, 21, 22, 23, 24, 25, 26, 27, 28, 29, 30, 31, 32, 33, 34, 44, 45, 46, 47, 48, 49, 50, 51, 52, 53, 54, 55, 56, 57, 58, 59, 60, 61, 62, 63, 64, 65, 66, 67, 68, 69, 70, 71, 72, 73, 74, 75, 76, 77, 78, 79, 80, 81, 82, 83, 84, 85, 86, 87, 88, 89, 90, 91, 92, 93, 94, 95, 96, 97, 98, 99, 100, 101] (by decide +kernel) (by decide +kernel)) (goodIn_sub (fun _ h => List.mem_cons_of_mem _ (List.mem_append_left _ (List.mem_append_right _ h))) (by decide +kernel))) (goodIn_sub (fun _ h => List.mem_cons_of_mem _ (List.mem_append_right _ h)) (by decide +kernel))
set_option maxRecDepth 20000 in
theorem gX11_open_X11_beginLook : GoodIn wsX11_open (wsV RX11 138 RX11 yX11_beginLook wsX11_beginLook) := goodIn_app (goodIn_of _ (by decide +kernel)) ggX11_open_X11_beginLook
theorem dX11_open_0 : decode cX11_open 0 = .ok (.aload_n 0, 1) := by decide +kernel
theorem dX11_open_1 : decode cX11_open 1 = .ok (.iload_n 1, 1) := by decide +kernel
theorem dX11_open_2 : decode cX11_open 2 = .ok (.iload_n 2, 1) := by decide +kernel
theorem dX11_open_3 : decode cX11_open 3 = .ok (.iload_n 3, 1) := by decide +kernel
theorem dX11_open_4 : decode cX11_open 4 = .ok (.invokevirtual 162, 3) := by decide +kernel
theorem dX11_open_7 : decode cX11_open 7 = .ok (.aload_n 0, 1) := by decide +kernel
theorem dX11_open_8 : decode cX11_open 8 = .ok (.invokevirtual 165, 3) := by decide +kernel
theorem dX11_open_11 : decode cX11_open 11 = .ok (.istore 4, 2) := by decide +kernel
theorem dX11_open_13 : decode cX11_open 13 = .ok (.iload 4, 2) := by decide +kernel
theorem dX11_open_15 : decode cX11_open 15 = .ok (.iconst (-1), 1) := by decide +kernel
theorem dX11_open_16 : decode cX11_open 16 = .ok (.if_icmp .ne 13, 3) := by decide +kernel
theorem dX11_open_19 : decode cX11_open 19 = .ok (.new 79, 3) := by decide +kernel
theorem dX11_open_22 : decode cX11_open 22 = .ok (.dup, 1) := by decide +kernel
theorem dX11_open_23 : decode cX11_open 23 = .ok (.ldc 168, 2) := by decide +kernel
theorem dX11_open_25 : decode cX11_open 25 = .ok (.invokespecial 83, 3) := by decide +kernel
theorem dX11_open_28 : decode cX11_open 28 = .ok (.athrow, 1) := by decide +kernel
theorem dX11_open_29 : decode cX11_open 29 = .ok (.aload_n 0, 1) := by decide +kernel
theorem dX11_open_30 : decode cX11_open 30 = .ok (.aload_n 0, 1) := by decide +kernel
theorem dX11_open_31 : decode cX11_open 31 = .ok (.getfield 26, 3) := by decide +kernel
theorem dX11_open_34 : decode cX11_open 34 = .ok (.iload 4, 2) := by decide +kernel
theorem dX11_open_36 : decode cX11_open 36 = .ok (.aaload, 1) := by decide +kernel
theorem dX11_open_37 : decode cX11_open 37 = .ok (.iload_n 1, 1) := by decide +kernel
theorem dX11_open_38 : decode cX11_open 38 = .ok (.iload_n 2, 1) := by decide +kernel
theorem dX11_open_39 : decode cX11_open 39 = .ok (.iload_n 3, 1) := by decide +kernel
theorem dX11_open_40 : decode cX11_open 40 = .ok (.invokevirtual 138, 3) := by decide +kernel
theorem dX11_open_43 : decode cX11_open 43 = .ok (.aload_n 0, 1) := by decide +kernel
theorem dX11_open_44 : decode cX11_open 44 = .ok (.getfield 30, 3) := by decide +kernel
theorem dX11_open_47 : decode cX11_open 47 = .ok (.iload 4, 2) := by decide +kernel
theorem dX11_open_49 : decode cX11_open 49 = .ok (.iconst 1, 1) := by decide +kernel
theorem dX11_open_50 : decode cX11_open 50 = .ok (.bastore, 1) := by decide +kernel
theorem dX11_open_51 : decode cX11_open 51 = .ok (.iload 4, 2) := by decide +kernel
theorem dX11_open_53 : decode cX11_open 53 = .ok (.ireturn, 1) := by decide +kernel
set_option maxRecDepth 20000 in
theorem ggX11_next_X11_requireOpen : GoodIn wsX11_next wsX11_requireOpen := goodIn_ca (goodIn_ca (goodIn_r _ [7, 8, 9, 10, 11, 12, 6, 13, 14, 15, 73, 74, 75, 76, 77, 78, 79, 80, 81, 82, 83, 84] (by decide +kernel) (by decide +kernel)) (goodIn_sub (fun _ h => List.mem_cons_of_mem _ (List.mem_append_left _ (List.mem_append_right _ h))) (by decide +kernel))) (goodIn_sub (fun _ h => List.mem_cons_of_mem _ (List.mem_append_right _ h)) (by decide +kernel))
set_option maxRecDepth 20000 in
theorem gX11_next_X11_requireOpen : GoodIn wsX11_next (wsV RX11 170 RX11 yX11_requireOpen wsX11_requireOpen) := goodIn_app (goodIn_of _ (by decide +kernel)) ggX11_next_X11_requireOpen
theorem dX11_next_0 : decode cX11_next 0 = .ok (.aload_n 0, 1) := by decide +kernel
theorem dX11_next_1 : decode cX11_next 1 = .ok (.iload_n 1, 1) := by decide +kernel
theorem dX11_next_2 : decode cX11_next 2 = .ok (.invokevirtual 170, 3) := by decide +kernel
theorem dX11_next_5 : decode cX11_next 5 = .ok (.aload_n 0, 1) := by decide +kernel
theorem dX11_next_6 : decode cX11_next 6 = .ok (.getfield 26, 3) := by decide +kernel
theorem dX11_next_9 : decode cX11_next 9 = .ok (.iload_n 1, 1) := by decide +kernel
theorem dX11_next_10 : decode cX11_next 10 = .ok (.aaload, 1) := by decide +kernel
theorem dX11_next_11 : decode cX11_next 11 = .ok (.invokevirtual 154, 3) := by decide +kernel
theorem dX11_next_14 : decode cX11_next 14 = .ok (.astore_n 2, 1) := by decide +kernel
theorem dX11_next_15 : decode cX11_next 15 = .ok (.aload_n 0, 1) := by decide +kernel
theorem dX11_next_16 : decode cX11_next 16 = .ok (.aload_n 0, 1) := by decide +kernel
theorem dX11_next_17 : decode cX11_next 17 = .ok (.getfield 26, 3) := by decide +kernel
theorem dX11_next_20 : decode cX11_next 20 = .ok (.iload_n 1, 1) := by decide +kernel
theorem dX11_next_21 : decode cX11_next 21 = .ok (.aaload, 1) := by decide +kernel
theorem dX11_next_22 : decode cX11_next 22 = .ok (.invokevirtual 148, 3) := by decide +kernel
theorem dX11_next_25 : decode cX11_next 25 = .ok (.putfield 151, 3) := by decide +kernel
theorem dX11_next_28 : decode cX11_next 28 = .ok (.aload_n 2, 1) := by decide +kernel
theorem dX11_next_29 : decode cX11_next 29 = .ok (.invokestatic 158, 3) := by decide +kernel
theorem dX11_next_32 : decode cX11_next 32 = .ok (.ireturn, 1) := by decide +kernel
set_option maxRecDepth 20000 in
theorem ggX11_close_X11_requireOpen : GoodIn wsX11_close wsX11_requireOpen := goodIn_ca (goodIn_ca (goodIn_r _ [8, 9, 10, 1, 11, 12, 7, 13, 14, 15, 16, 17, 18, 19, 20, 21, 22, 23, 24, 25, 26, 27] (by decide +kernel) (by decide +kernel)) (goodIn_sub (fun _ h => List.mem_cons_of_mem _ (List.mem_append_left _ (List.mem_append_right _ h))) (by decide +kernel))) (goodIn_sub (fun _ h => List.mem_cons_of_mem _ (List.mem_append_right _ h)) (by decide +kernel))
set_option maxRecDepth 20000 in
theorem gX11_close_X11_requireOpen : GoodIn wsX11_close (wsV RX11 170 RX11 yX11_requireOpen wsX11_requireOpen) := goodIn_app (goodIn_of _ (by decide +kernel)) ggX11_close_X11_requireOpen
theorem dX11_close_0 : decode cX11_close 0 = .ok (.aload_n 0, 1) := by decide +kernel
theorem dX11_close_1 : decode cX11_close 1 = .ok (.iload_n 1, 1) := by decide +kernel
theorem dX11_close_2 : decode cX11_close 2 = .ok (.invokevirtual 170, 3) := by decide +kernel
theorem dX11_close_5 : decode cX11_close 5 = .ok (.aload_n 0, 1) := by decide +kernel
theorem dX11_close_6 : decode cX11_close 6 = .ok (.getfield 30, 3) := by decide +kernel
theorem dX11_close_9 : decode cX11_close 9 = .ok (.iload_n 1, 1) := by decide +kernel
theorem dX11_close_10 : decode cX11_close 10 = .ok (.iconst 0, 1) := by decide +kernel
theorem dX11_close_11 : decode cX11_close 11 = .ok (.bastore, 1) := by decide +kernel
theorem dX11_close_12 : decode cX11_close 12 = .ok (.aload_n 0, 1) := by decide +kernel
theorem dX11_close_13 : decode cX11_close 13 = .ok (.getfield 26, 3) := by decide +kernel
theorem dX11_close_16 : decode cX11_close 16 = .ok (.iload_n 1, 1) := by decide +kernel
theorem dX11_close_17 : decode cX11_close 17 = .ok (.aaload, 1) := by decide +kernel
theorem dX11_close_18 : decode cX11_close 18 = .ok (.getfield 173, 3) := by decide +kernel
theorem dX11_close_21 : decode cX11_close 21 = .ok (.ireturn, 1) := by decide +kernel
set_option maxRecDepth 20000 in
theorem ggX11_fact_X11_requireRange : GoodIn wsX11_fact wsX11_requireRange := goodIn_ca (goodIn_r _ [13, 14, 15] (by decide +kernel) (by decide +kernel)) (goodIn_sub (fun _ h => List.mem_cons_of_mem _ (List.mem_append_right _ h)) (by decide +kernel))
set_option maxRecDepth 20000 in
theorem gX11_fact_X11_requireRange : GoodIn wsX11_fact (va_wsS RX11 71 yX11_requireRange wsX11_requireRange) := goodIn_app (goodIn_of _ (by decide +kernel)) ggX11_fact_X11_requireRange
set_option maxRecDepth 20000 in
theorem ggX11_fact_X9_withNumber : GoodIn wsX11_fact wsX9_withNumber := goodIn_r _ [20, 21, 22, 23, 57, 58, 59, 60, 61, 62, 63, 64, 44, 45, 46, 47, 48, 49, 50] (by decide +kernel) (by decide +kernel)
set_option maxRecDepth 20000 in
theorem gX11_fact_X9_withNumber : GoodIn wsX11_fact (wsV RX11 176 RX9 yX9_withNumber wsX9_withNumber) := goodIn_app (goodIn_of _ (by decide +kernel)) ggX11_fact_X9_withNumber
theorem dX11_fact_0 : decode cX11_fact 0 = .ok (.iload_n 2, 1) := by decide +kernel
theorem dX11_fact_1 : decode cX11_fact 1 = .ok (.iconst 0, 1) := by decide +kernel
theorem dX11_fact_2 : decode cX11_fact 2 = .ok (.bipush 7, 2) := by decide +kernel
theorem dX11_fact_4 : decode cX11_fact 4 = .ok (.invokestatic 71, 3) := by decide +kernel
theorem dX11_fact_7 : decode cX11_fact 7 = .ok (.aload_n 0, 1) := by decide +kernel
theorem dX11_fact_8 : decode cX11_fact 8 = .ok (.getfield 20, 3) := by decide +kernel
theorem dX11_fact_11 : decode cX11_fact 11 = .ok (.iload_n 1, 1) := by decide +kernel
theorem dX11_fact_12 : decode cX11_fact 12 = .ok (.invokevirtual 176, 3) := by decide +kernel
theorem dX11_fact_15 : decode cX11_fact 15 = .ok (.astore_n 3, 1) := by decide +kernel
theorem dX11_fact_16 : decode cX11_fact 16 = .ok (.aload_n 3, 1) := by decide +kernel
theorem dX11_fact_17 : decode cX11_fact 17 = .ok (.ifnonnull 13, 3) := by decide +kernel
theorem dX11_fact_20 : decode cX11_fact 20 = .ok (.new 180, 3) := by decide +kernel
theorem dX11_fact_23 : decode cX11_fact 23 = .ok (.dup, 1) := by decide +kernel
theorem dX11_fact_24 : decode cX11_fact 24 = .ok (.ldc 182, 2) := by decide +kernel
theorem dX11_fact_26 : decode cX11_fact 26 = .ok (.invokespecial 184, 3) := by decide +kernel
theorem dX11_fact_29 : decode cX11_fact 29 = .ok (.athrow, 1) := by decide +kernel
theorem dX11_fact_30 : decode cX11_fact 30 = .ok (.iload_n 2, 1) := by decide +kernel
theorem dX11_fact_31 : decode cX11_fact 31 = .ok (.tableswitch 59 4 7 #[29, 37, 42, 47], 29) := by decide +kernel
theorem dX11_fact_60 : decode cX11_fact 60 = .ok (.aload_n 3, 1) := by decide +kernel
theorem dX11_fact_61 : decode cX11_fact 61 = .ok (.getfield 185, 3) := by decide +kernel
theorem dX11_fact_64 : decode cX11_fact 64 = .ok (.getfield 189, 3) := by decide +kernel
theorem dX11_fact_67 : decode cX11_fact 67 = .ok (.ireturn, 1) := by decide +kernel
theorem dX11_fact_68 : decode cX11_fact 68 = .ok (.aload_n 3, 1) := by decide +kernel
theorem dX11_fact_69 : decode cX11_fact 69 = .ok (.getfield 190, 3) := by decide +kernel
theorem dX11_fact_72 : decode cX11_fact 72 = .ok (.ireturn, 1) := by decide +kernel
theorem dX11_fact_73 : decode cX11_fact 73 = .ok (.aload_n 3, 1) := by decide +kernel
theorem dX11_fact_74 : decode cX11_fact 74 = .ok (.getfield 193, 3) := by decide +kernel
theorem dX11_fact_77 : decode cX11_fact 77 = .ok (.ireturn, 1) := by decide +kernel
theorem dX11_fact_78 : decode cX11_fact 78 = .ok (.aload_n 3, 1) := by decide +kernel
theorem dX11_fact_79 : decode cX11_fact 79 = .ok (.getfield 185, 3) := by decide +kernel
theorem dX11_fact_82 : decode cX11_fact 82 = .ok (.getfield 196, 3) := by decide +kernel
theorem dX11_fact_85 : decode cX11_fact 85 = .ok (.aload_n 3, 1) := by decide +kernel
theorem dX11_fact_86 : decode cX11_fact 86 = .ok (.invokevirtual 200, 3) := by decide +kernel
theorem dX11_fact_89 : decode cX11_fact 89 = .ok (.ireturn, 1) := by decide +kernel
theorem dX11_fact_90 : decode cX11_fact 90 = .ok (.aload_n 3, 1) := by decide +kernel
theorem dX11_fact_91 : decode cX11_fact 91 = .ok (.getfield 205, 3) := by decide +kernel
theorem dX11_fact_94 : decode cX11_fact 94 = .ok (.iload_n 2, 1) := by decide +kernel
theorem dX11_fact_95 : decode cX11_fact 95 = .ok (.iaload, 1) := by decide +kernel
theorem dX11_fact_96 : decode cX11_fact 96 = .ok (.ireturn, 1) := by decide +kernel
set_option maxRecDepth 20000 in
theorem ggX11_mark_X3_makeMark : GoodIn wsX11_mark wsX3_makeMark := goodIn_r _ [10, 11, 12, 13, 34, 35, 36, 37, 38] (by decide +kernel) (by decide +kernel)
set_option maxRecDepth 20000 in
theorem gX11_mark_X3_makeMark : GoodIn wsX11_mark (wsV RX11 211 RX3 yX3_makeMark wsX3_makeMark) := goodIn_app (goodIn_of _ (by decide +kernel)) ggX11_mark_X3_makeMark
theorem dX11_mark_0 : decode cX11_mark 0 = .ok (.aload_n 0, 1) := by decide +kernel
theorem dX11_mark_1 : decode cX11_mark 1 = .ok (.getfield 20, 3) := by decide +kernel
theorem dX11_mark_4 : decode cX11_mark 4 = .ok (.getfield 207, 3) := by decide +kernel
theorem dX11_mark_7 : decode cX11_mark 7 = .ok (.invokevirtual 211, 3) := by decide +kernel
theorem dX11_mark_10 : decode cX11_mark 10 = .ok (.ifCond .ne 13, 3) := by decide +kernel
theorem dX11_mark_13 : decode cX11_mark 13 = .ok (.new 79, 3) := by decide +kernel
theorem dX11_mark_16 : decode cX11_mark 16 = .ok (.dup, 1) := by decide +kernel
theorem dX11_mark_17 : decode cX11_mark 17 = .ok (.ldc 217, 2) := by decide +kernel
theorem dX11_mark_19 : decode cX11_mark 19 = .ok (.invokespecial 83, 3) := by decide +kernel
theorem dX11_mark_22 : decode cX11_mark 22 = .ok (.athrow, 1) := by decide +kernel
theorem dX11_mark_23 : decode cX11_mark 23 = .ok (.aload_n 0, 1) := by decide +kernel
theorem dX11_mark_24 : decode cX11_mark 24 = .ok (.getfield 20, 3) := by decide +kernel
theorem dX11_mark_27 : decode cX11_mark 27 = .ok (.getfield 207, 3) := by decide +kernel
theorem dX11_mark_30 : decode cX11_mark 30 = .ok (.getfield 219, 3) := by decide +kernel
theorem dX11_mark_33 : decode cX11_mark 33 = .ok (.ireturn, 1) := by decide +kernel
theorem dX11_back_0 : decode cX11_back 0 = .ok (.aload_n 0, 1) := by decide +kernel
theorem dX11_back_1 : decode cX11_back 1 = .ok (.getfield 20, 3) := by decide +kernel
theorem dX11_back_4 : decode cX11_back 4 = .ok (.getfield 207, 3) := by decide +kernel
theorem dX11_back_7 : decode cX11_back 7 = .ok (.getfield 219, 3) := by decide +kernel
theorem dX11_back_10 : decode cX11_back 10 = .ok (.ifCond .ne 13, 3) := by decide +kernel
theorem dX11_back_13 : decode cX11_back 13 = .ok (.new 79, 3) := by decide +kernel
theorem dX11_back_16 : decode cX11_back 16 = .ok (.dup, 1) := by decide +kernel
theorem dX11_back_17 : decode cX11_back 17 = .ok (.ldc 222, 2) := by decide +kernel
theorem dX11_back_19 : decode cX11_back 19 = .ok (.invokespecial 83, 3) := by decide +kernel
theorem dX11_back_22 : decode cX11_back 22 = .ok (.athrow, 1) := by decide +kernel
theorem dX11_back_23 : decode cX11_back 23 = .ok (.iload_n 1, 1) := by decide +kernel
theorem dX11_back_24 : decode cX11_back 24 = .ok (.ifCond .eq 23, 3) := by decide +kernel
theorem dX11_back_27 : decode cX11_back 27 = .ok (.aload_n 0, 1) := by decide +kernel
theorem dX11_back_28 : decode cX11_back 28 = .ok (.getfield 20, 3) := by decide +kernel
theorem dX11_back_31 : decode cX11_back 31 = .ok (.invokevirtual 224, 3) := by decide +kernel
theorem dX11_back_34 : decode cX11_back 34 = .ok (.ifCond .ne 13, 3) := by decide +kernel
theorem dX11_back_37 : decode cX11_back 37 = .ok (.new 79, 3) := by decide +kernel
theorem dX11_back_40 : decode cX11_back 40 = .ok (.dup, 1) := by decide +kernel
theorem dX11_back_41 : decode cX11_back 41 = .ok (.ldc 127, 2) := by decide +kernel
theorem dX11_back_43 : decode cX11_back 43 = .ok (.invokespecial 83, 3) := by decide +kernel
theorem dX11_back_46 : decode cX11_back 46 = .ok (.athrow, 1) := by decide +kernel
theorem dX11_back_47 : decode cX11_back 47 = .ok (.aload_n 0, 1) := by decide +kernel
theorem dX11_back_48 : decode cX11_back 48 = .ok (.getfield 20, 3) := by decide +kernel
theorem dX11_back_51 : decode cX11_back 51 = .ok (.getfield 207, 3) := by decide +kernel
theorem dX11_back_54 : decode cX11_back 54 = .ok (.invokevirtual 227, 3) := by decide +kernel
theorem dX11_back_57 : decode cX11_back 57 = .ok (.istore_n 2, 1) := by decide +kernel
theorem dX11_back_58 : decode cX11_back 58 = .ok (.iload_n 1, 1) := by decide +kernel
theorem dX11_back_59 : decode cX11_back 59 = .ok (.ifCond .eq 14, 3) := by decide +kernel
theorem dX11_back_62 : decode cX11_back 62 = .ok (.aload_n 0, 1) := by decide +kernel
theorem dX11_back_63 : decode cX11_back 63 = .ok (.getfield 20, 3) := by decide +kernel
theorem dX11_back_66 : decode cX11_back 66 = .ok (.iload_n 2, 1) := by decide +kernel
theorem dX11_back_67 : decode cX11_back 67 = .ok (.invokevirtual 230, 3) := by decide +kernel
theorem dX11_back_70 : decode cX11_back 70 = .ok (.goto 4, 3) := by decide +kernel
theorem dX11_back_73 : decode cX11_back 73 = .ok (.iconst 0, 1) := by decide +kernel
theorem dX11_back_74 : decode cX11_back 74 = .ok (.istore_n 3, 1) := by decide +kernel
theorem dX11_back_75 : decode cX11_back 75 = .ok (.aload_n 0, 1) := by decide +kernel
theorem dX11_back_76 : decode cX11_back 76 = .ok (.getfield 20, 3) := by decide +kernel
theorem dX11_back_79 : decode cX11_back 79 = .ok (.getfield 207, 3) := by decide +kernel
theorem dX11_back_82 : decode cX11_back 82 = .ok (.invokevirtual 233, 3) := by decide +kernel
theorem dX11_back_85 : decode cX11_back 85 = .ok (.iload_n 3, 1) := by decide +kernel
theorem dX11_back_86 : decode cX11_back 86 = .ok (.ireturn, 1) := by decide +kernel
set_option maxRecDepth 20000 in
theorem ggX11_purge_X11_requireTime : GoodIn wsX11_purge wsX11_requireTime := goodIn_ca (goodIn_r _ [10, 3, 11, 12, 13, 14, 9, 15, 16, 17, 119, 120, 121, 122, 123, 124, 125, 126, 127, 128, 129, 130, 131, 132, 133, 134, 135, 136, 137, 138] (by decide +kernel) (by decide +kernel)) (goodIn_sub (fun _ h => List.mem_cons_of_mem _ (List.mem_append_right _ h)) (by decide +kernel))
set_option maxRecDepth 20000 in
theorem gX11_purge_X11_requireTime : GoodIn wsX11_purge (wsV RX11 236 RX11 yX11_requireTime wsX11_requireTime) := goodIn_app (goodIn_of _ (by decide +kernel)) ggX11_purge_X11_requireTime
set_option maxRecDepth 20000 in
theorem ggX11_purge_X11_openCursors : GoodIn wsX11_purge wsX11_openCursors := goodIn_r _ [21, 22, 119, 120, 121, 122, 123, 124, 125, 126, 127, 128, 129, 130] (by decide +kernel) (by decide +kernel)
set_option maxRecDepth 20000 in
theorem gX11_purge_X11_openCursors : GoodIn wsX11_purge (wsV RX11 239 RX11 yX11_openCursors wsX11_openCursors) := goodIn_app (goodIn_of _ (by decide +kernel)) ggX11_purge_X11_openCursors
set_option maxRecDepth 20000 in
theorem ggX11_purge_X9_timeOf : GoodIn wsX11_purge wsX9_timeOf := goodIn_r _ [27, 28, 131, 132, 133, 134, 135, 136, 137, 138] (by decide +kernel) (by decide +kernel)
set_option maxRecDepth 20000 in
theorem gX11_purge_X9_timeOf : GoodIn wsX11_purge (wsV RX11 244 RX9 yX9_timeOf wsX9_timeOf) := goodIn_app (goodIn_of _ (by decide +kernel)) ggX11_purge_X9_timeOf
set_option maxRecDepth 20000 in
theorem ggX11_purge_X9_forgetDead : GoodIn wsX11_purge wsX9_forgetDead := goodIn_r _ [32, 33, 34, 35, 36, 37, 38, 39, 40, 41, 42, 43, 44, 45, 46, 47, 48, 49, 50, 51, 52, 53, 54, 55, 56, 57, 58, 59, 60, 61, 62, 63, 64, 65, 66, 67, 68, 69, 70, 71, 72, 73, 74, 75, 76, 77, 78, 79, 80, 81, 82, 83, 84, 85, 86, 87, 88, 89, 90, 91, 92, 93, 94, 95, 96, 97, 98, 99, 100, 101, 102, 103, 104, 105, 106, 107, 108, 109, 110, 111, 112, 113, 114, 115, 116, 117, 118, 131, 132, 133, 134, 135, 136, 137, 138, 144, 145, 146, 147, 148, 149, 150, 151, 152, 153, 154, 155, 156, 157, 158, 159, 160, 161, 162, 163] (by decide +kernel) (by decide +kernel)
set_option maxRecDepth 20000 in
theorem gX11_purge_X9_forgetDead : GoodIn wsX11_purge (wsV RX11 247 RX9 yX9_forgetDead wsX9_forgetDead) := goodIn_app (goodIn_of _ (by decide +kernel)) ggX11_purge_X9_forgetDead
theorem dX11_purge_0 : decode cX11_purge 0 = .ok (.aload_n 0, 1) := by decide +kernel
theorem dX11_purge_1 : decode cX11_purge 1 = .ok (.iload_n 1, 1) := by decide +kernel
theorem dX11_purge_2 : decode cX11_purge 2 = .ok (.invokevirtual 236, 3) := by decide +kernel
theorem dX11_purge_5 : decode cX11_purge 5 = .ok (.aload_n 0, 1) := by decide +kernel
theorem dX11_purge_6 : decode cX11_purge 6 = .ok (.invokevirtual 239, 3) := by decide +kernel
theorem dX11_purge_9 : decode cX11_purge 9 = .ok (.ifCond .gt 16, 3) := by decide +kernel
theorem dX11_purge_12 : decode cX11_purge 12 = .ok (.aload_n 0, 1) := by decide +kernel
theorem dX11_purge_13 : decode cX11_purge 13 = .ok (.getfield 20, 3) := by decide +kernel
theorem dX11_purge_16 : decode cX11_purge 16 = .ok (.getfield 207, 3) := by decide +kernel
theorem dX11_purge_19 : decode cX11_purge 19 = .ok (.getfield 219, 3) := by decide +kernel
theorem dX11_purge_22 : decode cX11_purge 22 = .ok (.ifCond .le 13, 3) := by decide +kernel
theorem dX11_purge_25 : decode cX11_purge 25 = .ok (.new 79, 3) := by decide +kernel
theorem dX11_purge_28 : decode cX11_purge 28 = .ok (.dup, 1) := by decide +kernel
theorem dX11_purge_29 : decode cX11_purge 29 = .ok (.ldc 242, 2) := by decide +kernel
theorem dX11_purge_31 : decode cX11_purge 31 = .ok (.invokespecial 83, 3) := by decide +kernel
theorem dX11_purge_34 : decode cX11_purge 34 = .ok (.athrow, 1) := by decide +kernel
theorem dX11_purge_35 : decode cX11_purge 35 = .ok (.aload_n 0, 1) := by decide +kernel
theorem dX11_purge_36 : decode cX11_purge 36 = .ok (.getfield 20, 3) := by decide +kernel
theorem dX11_purge_39 : decode cX11_purge 39 = .ok (.aload_n 0, 1) := by decide +kernel
theorem dX11_purge_40 : decode cX11_purge 40 = .ok (.getfield 20, 3) := by decide +kernel
theorem dX11_purge_43 : decode cX11_purge 43 = .ok (.iload_n 1, 1) := by decide +kernel
theorem dX11_purge_44 : decode cX11_purge 44 = .ok (.invokevirtual 244, 3) := by decide +kernel
theorem dX11_purge_47 : decode cX11_purge 47 = .ok (.invokevirtual 247, 3) := by decide +kernel
theorem dX11_purge_50 : decode cX11_purge 50 = .ok (.ireturn, 1) := by decide +kernel
set_option maxRecDepth 20000 in
theorem ggX11_changes_X11_requireTime : GoodIn wsX11_changes wsX11_requireTime := goodIn_ca (goodIn_r _ [11, 1, 12, 13, 14, 15, 10, 16, 17, 18, 49, 50, 51, 52, 53, 54, 55, 56, 57, 58, 59, 60, 79, 80, 81, 82, 83, 84, 85, 86] (by decide +kernel) (by decide +kernel)) (goodIn_sub (fun _ h => List.mem_cons_of_mem _ (List.mem_append_left _ (List.mem_append_right _ h))) (by decide +kernel))
set_option maxRecDepth 20000 in
theorem gX11_changes_X11_requireTime : GoodIn wsX11_changes (wsV RX11 236 RX11 yX11_requireTime wsX11_requireTime) := goodIn_app (goodIn_of _ (by decide +kernel)) ggX11_changes_X11_requireTime
set_option maxRecDepth 20000 in
theorem ggX11_changes_X11_tableOf : GoodIn wsX11_changes wsX11_tableOf := goodIn_ca (goodIn_r _ [22, 23, 24, 1, 25, 26, 27, 28, 29, 30, 31, 49, 50, 51, 52, 53, 54, 55, 56, 57, 58, 59, 60, 79, 80, 81, 82, 83, 84, 85, 86] (by decide +kernel) (by decide +kernel)) (goodIn_sub (fun _ h => List.mem_cons_of_mem _ (List.mem_append_right _ h)) (by decide +kernel))
set_option maxRecDepth 20000 in
theorem gX11_changes_X11_tableOf : GoodIn wsX11_changes (wsV RX11 84 RX11 yX11_tableOf wsX11_tableOf) := goodIn_app (goodIn_of _ (by decide +kernel)) ggX11_changes_X11_tableOf
set_option maxRecDepth 20000 in
theorem ggX11_changes_X9_timeOf : GoodIn wsX11_changes wsX9_timeOf := goodIn_r _ [35, 36, 79, 80, 81, 82, 83, 84, 85, 86] (by decide +kernel) (by decide +kernel)
set_option maxRecDepth 20000 in
theorem gX11_changes_X9_timeOf : GoodIn wsX11_changes (wsV RX11 244 RX9 yX9_timeOf wsX9_timeOf) := goodIn_app (goodIn_of _ (by decide +kernel)) ggX11_changes_X9_timeOf
theorem dX11_changes_0 : decode cX11_changes 0 = .ok (.aload_n 0, 1) := by decide +kernel
theorem dX11_changes_1 : decode cX11_changes 1 = .ok (.iload_n 2, 1) := by decide +kernel
theorem dX11_changes_2 : decode cX11_changes 2 = .ok (.invokevirtual 236, 3) := by decide +kernel
theorem dX11_changes_5 : decode cX11_changes 5 = .ok (.aload_n 0, 1) := by decide +kernel
theorem dX11_changes_6 : decode cX11_changes 6 = .ok (.iload_n 3, 1) := by decide +kernel
theorem dX11_changes_7 : decode cX11_changes 7 = .ok (.invokevirtual 236, 3) := by decide +kernel
theorem dX11_changes_10 : decode cX11_changes 10 = .ok (.aload_n 0, 1) := by decide +kernel
theorem dX11_changes_11 : decode cX11_changes 11 = .ok (.iload_n 1, 1) := by decide +kernel
theorem dX11_changes_12 : decode cX11_changes 12 = .ok (.invokevirtual 84, 3) := by decide +kernel
theorem dX11_changes_15 : decode cX11_changes 15 = .ok (.astore 4, 2) := by decide +kernel
theorem dX11_changes_17 : decode cX11_changes 17 = .ok (.aload_n 0, 1) := by decide +kernel
theorem dX11_changes_18 : decode cX11_changes 18 = .ok (.getfield 20, 3) := by decide +kernel
theorem dX11_changes_21 : decode cX11_changes 21 = .ok (.iload_n 2, 1) := by decide +kernel
theorem dX11_changes_22 : decode cX11_changes 22 = .ok (.invokevirtual 244, 3) := by decide +kernel
theorem dX11_changes_25 : decode cX11_changes 25 = .ok (.istore 5, 2) := by decide +kernel
theorem dX11_changes_27 : decode cX11_changes 27 = .ok (.aload_n 0, 1) := by decide +kernel
theorem dX11_changes_28 : decode cX11_changes 28 = .ok (.getfield 20, 3) := by decide +kernel
theorem dX11_changes_31 : decode cX11_changes 31 = .ok (.iload_n 3, 1) := by decide +kernel
theorem dX11_changes_32 : decode cX11_changes 32 = .ok (.invokevirtual 244, 3) := by decide +kernel
theorem dX11_changes_35 : decode cX11_changes 35 = .ok (.istore 6, 2) := by decide +kernel
theorem dX11_changes_37 : decode cX11_changes 37 = .ok (.aload_n 0, 1) := by decide +kernel
theorem dX11_changes_38 : decode cX11_changes 38 = .ok (.iconst 0, 1) := by decide +kernel
theorem dX11_changes_39 : decode cX11_changes 39 = .ok (.putfield 250, 3) := by decide +kernel
theorem dX11_changes_42 : decode cX11_changes 42 = .ok (.aload 4, 2) := by decide +kernel
theorem dX11_changes_44 : decode cX11_changes 44 = .ok (.getfield 196, 3) := by decide +kernel
theorem dX11_changes_47 : decode cX11_changes 47 = .ok (.getfield 253, 3) := by decide +kernel
theorem dX11_changes_50 : decode cX11_changes 50 = .ok (.astore 7, 2) := by decide +kernel
theorem dX11_changes_52 : decode cX11_changes 52 = .ok (.aload 7, 2) := by decide +kernel
theorem dX11_changes_54 : decode cX11_changes 54 = .ok (.ifnull 44, 3) := by decide +kernel
theorem dX11_changes_57 : decode cX11_changes 57 = .ok (.aload 7, 2) := by decide +kernel
theorem dX11_changes_59 : decode cX11_changes 59 = .ok (.iload 6, 2) := by decide +kernel
theorem dX11_changes_61 : decode cX11_changes 61 = .ok (.invokevirtual 257, 3) := by decide +kernel
theorem dX11_changes_64 : decode cX11_changes 64 = .ok (.ifCond .eq 22, 3) := by decide +kernel
theorem dX11_changes_67 : decode cX11_changes 67 = .ok (.aload 7, 2) := by decide +kernel
theorem dX11_changes_69 : decode cX11_changes 69 = .ok (.iload 5, 2) := by decide +kernel
theorem dX11_changes_71 : decode cX11_changes 71 = .ok (.invokevirtual 257, 3) := by decide +kernel
theorem dX11_changes_74 : decode cX11_changes 74 = .ok (.ifCond .ne 12, 3) := by decide +kernel
theorem dX11_changes_77 : decode cX11_changes 77 = .ok (.aload_n 0, 1) := by decide +kernel
theorem dX11_changes_78 : decode cX11_changes 78 = .ok (.aload 7, 2) := by decide +kernel
theorem dX11_changes_80 : decode cX11_changes 80 = .ok (.getfield 133, 3) := by decide +kernel
theorem dX11_changes_83 : decode cX11_changes 83 = .ok (.invokevirtual 260, 3) := by decide +kernel
theorem dX11_changes_86 : decode cX11_changes 86 = .ok (.aload 7, 2) := by decide +kernel
theorem dX11_changes_88 : decode cX11_changes 88 = .ok (.getfield 263, 3) := by decide +kernel
theorem dX11_changes_91 : decode cX11_changes 91 = .ok (.iconst 4, 1) := by decide +kernel
theorem dX11_changes_92 : decode cX11_changes 92 = .ok (.aaload, 1) := by decide +kernel
theorem dX11_changes_93 : decode cX11_changes 93 = .ok (.astore 7, 2) := by decide +kernel
theorem dX11_changes_95 : decode cX11_changes 95 = .ok (.goto (-43), 3) := by decide +kernel
theorem dX11_changes_98 : decode cX11_changes 98 = .ok (.aload 4, 2) := by decide +kernel
theorem dX11_changes_100 : decode cX11_changes 100 = .ok (.getfield 196, 3) := by decide +kernel
theorem dX11_changes_103 : decode cX11_changes 103 = .ok (.getfield 253, 3) := by decide +kernel
theorem dX11_changes_106 : decode cX11_changes 106 = .ok (.astore 7, 2) := by decide +kernel
theorem dX11_changes_108 : decode cX11_changes 108 = .ok (.aload 7, 2) := by decide +kernel
theorem dX11_changes_110 : decode cX11_changes 110 = .ok (.ifnull 46, 3) := by decide +kernel
theorem dX11_changes_113 : decode cX11_changes 113 = .ok (.aload 7, 2) := by decide +kernel
theorem dX11_changes_115 : decode cX11_changes 115 = .ok (.iload 5, 2) := by decide +kernel
theorem dX11_changes_117 : decode cX11_changes 117 = .ok (.invokevirtual 257, 3) := by decide +kernel
theorem dX11_changes_120 : decode cX11_changes 120 = .ok (.ifCond .eq 24, 3) := by decide +kernel
theorem dX11_changes_123 : decode cX11_changes 123 = .ok (.aload 7, 2) := by decide +kernel
theorem dX11_changes_125 : decode cX11_changes 125 = .ok (.iload 6, 2) := by decide +kernel
theorem dX11_changes_127 : decode cX11_changes 127 = .ok (.invokevirtual 257, 3) := by decide +kernel
theorem dX11_changes_130 : decode cX11_changes 130 = .ok (.ifCond .ne 14, 3) := by decide +kernel
theorem dX11_changes_133 : decode cX11_changes 133 = .ok (.aload_n 0, 1) := by decide +kernel
theorem dX11_changes_134 : decode cX11_changes 134 = .ok (.iconst (-1), 1) := by decide +kernel
theorem dX11_changes_135 : decode cX11_changes 135 = .ok (.aload 7, 2) := by decide +kernel
theorem dX11_changes_137 : decode cX11_changes 137 = .ok (.getfield 133, 3) := by decide +kernel
theorem dX11_changes_140 : decode cX11_changes 140 = .ok (.isub, 1) := by decide +kernel
theorem dX11_changes_141 : decode cX11_changes 141 = .ok (.invokevirtual 260, 3) := by decide +kernel
theorem dX11_changes_144 : decode cX11_changes 144 = .ok (.aload 7, 2) := by decide +kernel
theorem dX11_changes_146 : decode cX11_changes 146 = .ok (.getfield 263, 3) := by decide +kernel
theorem dX11_changes_149 : decode cX11_changes 149 = .ok (.iconst 4, 1) := by decide +kernel
theorem dX11_changes_150 : decode cX11_changes 150 = .ok (.aaload, 1) := by decide +kernel
theorem dX11_changes_151 : decode cX11_changes 151 = .ok (.astore 7, 2) := by decide +kernel
theorem dX11_changes_153 : decode cX11_changes 153 = .ok (.goto (-45), 3) := by decide +kernel
theorem dX11_changes_156 : decode cX11_changes 156 = .ok (.aload_n 0, 1) := by decide +kernel
theorem dX11_changes_157 : decode cX11_changes 157 = .ok (.getfield 250, 3) := by decide +kernel
theorem dX11_changes_160 : decode cX11_changes 160 = .ok (.ireturn, 1) := by decide +kernel
theorem dX11_found_0 : decode cX11_found 0 = .ok (.iload_n 1, 1) := by decide +kernel
theorem dX11_found_1 : decode cX11_found 1 = .ok (.ifCond .lt 11, 3) := by decide +kernel
theorem dX11_found_4 : decode cX11_found 4 = .ok (.iload_n 1, 1) := by decide +kernel
theorem dX11_found_5 : decode cX11_found 5 = .ok (.aload_n 0, 1) := by decide +kernel
theorem dX11_found_6 : decode cX11_found 6 = .ok (.getfield 250, 3) := by decide +kernel
theorem dX11_found_9 : decode cX11_found 9 = .ok (.if_icmp .lt 14, 3) := by decide +kernel
theorem dX11_found_12 : decode cX11_found 12 = .ok (.new 60, 3) := by decide +kernel
theorem dX11_found_15 : decode cX11_found 15 = .ok (.dup, 1) := by decide +kernel
theorem dX11_found_16 : decode cX11_found 16 = .ok (.ldc_w 267, 3) := by decide +kernel
theorem dX11_found_19 : decode cX11_found 19 = .ok (.invokespecial 64, 3) := by decide +kernel
theorem dX11_found_22 : decode cX11_found 22 = .ok (.athrow, 1) := by decide +kernel
theorem dX11_found_23 : decode cX11_found 23 = .ok (.aload_n 0, 1) := by decide +kernel
theorem dX11_found_24 : decode cX11_found 24 = .ok (.getfield 34, 3) := by decide +kernel
theorem dX11_found_27 : decode cX11_found 27 = .ok (.iload_n 1, 1) := by decide +kernel
theorem dX11_found_28 : decode cX11_found 28 = .ok (.iaload, 1) := by decide +kernel
theorem dX11_found_29 : decode cX11_found 29 = .ok (.ireturn, 1) := by decide +kernel
set_option maxRecDepth 20000 in
theorem ggX11_question_X11_requireTime : GoodIn wsX11_question wsX11_requireTime := goodIn_ca (goodIn_r _ [14, 5, 15, 16, 17, 18, 13, 19, 20, 21, 245, 246, 247, 248, 249, 250, 251, 252, 253, 254, 255, 256, 273, 274, 275, 276, 277, 278, 279, 280] (by decide +kernel) (by decide +kernel)) (goodIn_sub (fun _ h => List.mem_cons_of_mem _ (List.mem_append_left _ (List.mem_append_left _ (List.mem_append_right _ h)))) (by decide +kernel))
set_option maxRecDepth 20000 in
theorem gX11_question_X11_requireTime : GoodIn wsX11_question (wsV RX11 236 RX11 yX11_requireTime wsX11_requireTime) := goodIn_app (goodIn_of _ (by decide +kernel)) ggX11_question_X11_requireTime
set_option maxRecDepth 20000 in
theorem ggX11_question_X6_readQuestion : GoodIn wsX11_question wsX6_readQuestion := goodIn_ca (goodIn_r _ [26, 27, 28, 29, 30, 31, 32, 33, 34, 35, 36, 25, 37, 38, 39, 40, 41, 42, 43, 44, 45, 46, 47, 48, 49, 50, 51, 52, 53, 54, 55, 56, 57, 58, 59, 60, 61, 62, 63, 64, 65, 66, 67, 68, 69, 70, 71, 72, 73, 74, 75, 76, 77, 78, 79, 80, 81, 82, 83, 84, 85, 86, 87, 88, 89, 90, 13, 91, 92, 93, 94, 95, 96, 97, 98, 99, 100, 101, 102, 103, 104, 105, 106, 107, 108, 109, 110, 111, 112, 257, 258, 259, 260, 261, 262, 263, 264, 281, 282, 283, 284, 285, 286, 287, 288, 289, 290, 291, 292, 273, 274, 275, 276, 277, 278, 279, 280] (by decide +kernel) (by decide +kernel)) (goodIn_sub (fun _ h => List.mem_cons_of_mem _ (List.mem_append_left _ (List.mem_append_right _ h))) (by decide +kernel))
set_option maxRecDepth 20000 in
theorem gX11_question_X6_readQuestion : GoodIn wsX11_question (wsV RX11 271 RX6 yX6_readQuestion wsX6_readQuestion) := goodIn_app (goodIn_of _ (by decide +kernel)) ggX11_question_X6_readQuestion
set_option maxRecDepth 20000 in
theorem ggX11_question_X9_timeOf : GoodIn wsX11_question wsX9_timeOf := goodIn_r _ [116, 117, 273, 274, 275, 276, 277, 278, 279, 280] (by decide +kernel) (by decide +kernel)
set_option maxRecDepth 20000 in
theorem gX11_question_X9_timeOf : GoodIn wsX11_question (wsV RX11 244 RX9 yX9_timeOf wsX9_timeOf) := goodIn_app (goodIn_of _ (by decide +kernel)) ggX11_question_X9_timeOf
theorem dX11_question_0 : decode cX11_question 0 = .ok (.aload_n 0, 1) := by decide +kernel
theorem dX11_question_1 : decode cX11_question 1 = .ok (.getfield 56, 3) := by decide +kernel
theorem dX11_question_4 : decode cX11_question 4 = .ok (.istore_n 2, 1) := by decide +kernel
theorem dX11_question_5 : decode cX11_question 5 = .ok (.aload_n 0, 1) := by decide +kernel
theorem dX11_question_6 : decode cX11_question 6 = .ok (.iconst 0, 1) := by decide +kernel
theorem dX11_question_7 : decode cX11_question 7 = .ok (.putfield 56, 3) := by decide +kernel
theorem dX11_question_10 : decode cX11_question 10 = .ok (.aload_n 0, 1) := by decide +kernel
theorem dX11_question_11 : decode cX11_question 11 = .ok (.getfield 45, 3) := by decide +kernel
theorem dX11_question_14 : decode cX11_question 14 = .ok (.iconst (-1), 1) := by decide +kernel
theorem dX11_question_15 : decode cX11_question 15 = .ok (.putfield 269, 3) := by decide +kernel
theorem dX11_question_18 : decode cX11_question 18 = .ok (.aload_n 0, 1) := by decide +kernel
theorem dX11_question_19 : decode cX11_question 19 = .ok (.iload_n 1, 1) := by decide +kernel
theorem dX11_question_20 : decode cX11_question 20 = .ok (.invokevirtual 236, 3) := by decide +kernel
theorem dX11_question_23 : decode cX11_question 23 = .ok (.aload_n 0, 1) := by decide +kernel
theorem dX11_question_24 : decode cX11_question 24 = .ok (.getfield 45, 3) := by decide +kernel
theorem dX11_question_27 : decode cX11_question 27 = .ok (.aload_n 0, 1) := by decide +kernel
theorem dX11_question_28 : decode cX11_question 28 = .ok (.getfield 9, 3) := by decide +kernel
theorem dX11_question_31 : decode cX11_question 31 = .ok (.iload_n 2, 1) := by decide +kernel
theorem dX11_question_32 : decode cX11_question 32 = .ok (.aload_n 0, 1) := by decide +kernel
theorem dX11_question_33 : decode cX11_question 33 = .ok (.getfield 20, 3) := by decide +kernel
theorem dX11_question_36 : decode cX11_question 36 = .ok (.invokevirtual 271, 3) := by decide +kernel
theorem dX11_question_39 : decode cX11_question 39 = .ok (.aload_n 0, 1) := by decide +kernel
theorem dX11_question_40 : decode cX11_question 40 = .ok (.ldc_w 275, 3) := by decide +kernel
theorem dX11_question_43 : decode cX11_question 43 = .ok (.putfield 151, 3) := by decide +kernel
theorem dX11_question_46 : decode cX11_question 46 = .ok (.aload_n 0, 1) := by decide +kernel
theorem dX11_question_47 : decode cX11_question 47 = .ok (.getfield 52, 3) := by decide +kernel
theorem dX11_question_50 : decode cX11_question 50 = .ok (.aload_n 0, 1) := by decide +kernel
theorem dX11_question_51 : decode cX11_question 51 = .ok (.getfield 45, 3) := by decide +kernel
theorem dX11_question_54 : decode cX11_question 54 = .ok (.aload_n 0, 1) := by decide +kernel
theorem dX11_question_55 : decode cX11_question 55 = .ok (.getfield 20, 3) := by decide +kernel
theorem dX11_question_58 : decode cX11_question 58 = .ok (.iload_n 1, 1) := by decide +kernel
theorem dX11_question_59 : decode cX11_question 59 = .ok (.invokevirtual 244, 3) := by decide +kernel
theorem dX11_question_62 : decode cX11_question 62 = .ok (.invokevirtual 276, 3) := by decide +kernel
theorem dX11_question_65 : decode cX11_question 65 = .ok (.istore_n 3, 1) := by decide +kernel
theorem dX11_question_66 : decode cX11_question 66 = .ok (.aload_n 0, 1) := by decide +kernel
theorem dX11_question_67 : decode cX11_question 67 = .ok (.aload_n 0, 1) := by decide +kernel
theorem dX11_question_68 : decode cX11_question 68 = .ok (.getfield 52, 3) := by decide +kernel
theorem dX11_question_71 : decode cX11_question 71 = .ok (.getfield 280, 3) := by decide +kernel
theorem dX11_question_74 : decode cX11_question 74 = .ok (.putfield 151, 3) := by decide +kernel
theorem dX11_question_77 : decode cX11_question 77 = .ok (.iload_n 3, 1) := by decide +kernel
theorem dX11_question_78 : decode cX11_question 78 = .ok (.ireturn, 1) := by decide +kernel
set_option maxRecDepth 20000 in
theorem ggX11_solution_X11_requireRange : GoodIn wsX11_solution wsX11_requireRange := goodIn_ca (goodIn_r _ [10, 11, 12] (by decide +kernel) (by decide +kernel)) (goodIn_sub (fun _ h => List.mem_cons_of_mem _ (List.mem_append_right _ h)) (by decide +kernel))
set_option maxRecDepth 20000 in
theorem gX11_solution_X11_requireRange : GoodIn wsX11_solution (va_wsS RX11 71 yX11_requireRange wsX11_requireRange) := goodIn_app (goodIn_of _ (by decide +kernel)) ggX11_solution_X11_requireRange
set_option maxRecDepth 20000 in
theorem ggX11_solution_X7_keptCount : GoodIn wsX11_solution wsX7_keptCount := goodIn_r _ [17, 18, 19, 20, 21, 22, 46, 47, 48] (by decide +kernel) (by decide +kernel)
set_option maxRecDepth 20000 in
theorem gX11_solution_X7_keptCount : GoodIn wsX11_solution (wsV RX11 285 RX7 yX7_keptCount wsX7_keptCount) := goodIn_app (goodIn_of _ (by decide +kernel)) ggX11_solution_X7_keptCount
theorem dX11_solution_0 : decode cX11_solution 0 = .ok (.iload_n 2, 1) := by decide +kernel
theorem dX11_solution_1 : decode cX11_solution 1 = .ok (.iconst 0, 1) := by decide +kernel
theorem dX11_solution_2 : decode cX11_solution 2 = .ok (.bipush 7, 2) := by decide +kernel
theorem dX11_solution_4 : decode cX11_solution 4 = .ok (.invokestatic 71, 3) := by decide +kernel
theorem dX11_solution_7 : decode cX11_solution 7 = .ok (.aload_n 0, 1) := by decide +kernel
theorem dX11_solution_8 : decode cX11_solution 8 = .ok (.getfield 52, 3) := by decide +kernel
theorem dX11_solution_11 : decode cX11_solution 11 = .ok (.getfield 281, 3) := by decide +kernel
theorem dX11_solution_14 : decode cX11_solution 14 = .ok (.astore_n 3, 1) := by decide +kernel
theorem dX11_solution_15 : decode cX11_solution 15 = .ok (.iload_n 1, 1) := by decide +kernel
theorem dX11_solution_16 : decode cX11_solution 16 = .ok (.ifCond .lt 22, 3) := by decide +kernel
theorem dX11_solution_19 : decode cX11_solution 19 = .ok (.iload_n 1, 1) := by decide +kernel
theorem dX11_solution_20 : decode cX11_solution 20 = .ok (.aload_n 3, 1) := by decide +kernel
theorem dX11_solution_21 : decode cX11_solution 21 = .ok (.invokevirtual 285, 3) := by decide +kernel
theorem dX11_solution_24 : decode cX11_solution 24 = .ok (.if_icmp .ge 14, 3) := by decide +kernel
theorem dX11_solution_27 : decode cX11_solution 27 = .ok (.aload_n 3, 1) := by decide +kernel
theorem dX11_solution_28 : decode cX11_solution 28 = .ok (.getfield 290, 3) := by decide +kernel
theorem dX11_solution_31 : decode cX11_solution 31 = .ok (.iload_n 2, 1) := by decide +kernel
theorem dX11_solution_32 : decode cX11_solution 32 = .ok (.invokestatic 293, 3) := by decide +kernel
theorem dX11_solution_35 : decode cX11_solution 35 = .ok (.ifCond .ne 14, 3) := by decide +kernel
theorem dX11_solution_38 : decode cX11_solution 38 = .ok (.new 60, 3) := by decide +kernel
theorem dX11_solution_41 : decode cX11_solution 41 = .ok (.dup, 1) := by decide +kernel
theorem dX11_solution_42 : decode cX11_solution 42 = .ok (.ldc_w 267, 3) := by decide +kernel
theorem dX11_solution_45 : decode cX11_solution 45 = .ok (.invokespecial 64, 3) := by decide +kernel
theorem dX11_solution_48 : decode cX11_solution 48 = .ok (.athrow, 1) := by decide +kernel
theorem dX11_solution_49 : decode cX11_solution 49 = .ok (.aload_n 3, 1) := by decide +kernel
theorem dX11_solution_50 : decode cX11_solution 50 = .ok (.getfield 297, 3) := by decide +kernel
theorem dX11_solution_53 : decode cX11_solution 53 = .ok (.iload_n 1, 1) := by decide +kernel
theorem dX11_solution_54 : decode cX11_solution 54 = .ok (.bipush 8, 2) := by decide +kernel
theorem dX11_solution_56 : decode cX11_solution 56 = .ok (.imul, 1) := by decide +kernel
theorem dX11_solution_57 : decode cX11_solution 57 = .ok (.iload_n 2, 1) := by decide +kernel
theorem dX11_solution_58 : decode cX11_solution 58 = .ok (.iadd, 1) := by decide +kernel
theorem dX11_solution_59 : decode cX11_solution 59 = .ok (.iaload, 1) := by decide +kernel
theorem dX11_solution_60 : decode cX11_solution 60 = .ok (.ireturn, 1) := by decide +kernel
set_option maxRecDepth 20000 in
theorem ggX11_count_X11_requireRange : GoodIn wsX11_count wsX11_requireRange := goodIn_ca (goodIn_r _ [18, 19, 20] (by decide +kernel) (by decide +kernel)) (goodIn_sub (fun _ h => List.mem_cons_of_mem _ (List.mem_append_right _ h)) (by decide +kernel))
set_option maxRecDepth 20000 in
theorem gX11_count_X11_requireRange : GoodIn wsX11_count (va_wsS RX11 71 yX11_requireRange wsX11_requireRange) := goodIn_app (goodIn_of _ (by decide +kernel)) ggX11_count_X11_requireRange
set_option maxRecDepth 20000 in
theorem ggX11_count_X11_openCursors : GoodIn wsX11_count wsX11_openCursors := goodIn_r _ [24, 25, 58, 59, 60, 61, 62, 63, 64, 65, 66, 67, 68, 69] (by decide +kernel) (by decide +kernel)
set_option maxRecDepth 20000 in
theorem gX11_count_X11_openCursors : GoodIn wsX11_count (wsV RX11 239 RX11 yX11_openCursors wsX11_openCursors) := goodIn_app (goodIn_of _ (by decide +kernel)) ggX11_count_X11_openCursors
set_option maxRecDepth 20000 in
theorem ggX11_count_J6_bitCount_0f7a4 : GoodIn wsX11_count wsJ6_bitCount_0f7a4 := goodIn_r _ [29, 30, 31, 32] (by decide +kernel) (by decide +kernel)
set_option maxRecDepth 20000 in
theorem gX11_count_J6_bitCount_0f7a4 : GoodIn wsX11_count (va_wsS RX11 311 yJ6_bitCount_0f7a4 wsJ6_bitCount_0f7a4) := goodIn_app (goodIn_of _ (by decide +kernel)) ggX11_count_J6_bitCount_0f7a4
set_option maxRecDepth 20000 in
theorem ggX11_count_X11_factsThereNow : GoodIn wsX11_count wsX11_factsThereNow := goodIn_r _ [36, 2, 37, 38, 39, 40, 41, 42, 43, 44, 45, 46, 47, 48, 49, 50, 51, 52, 53, 54, 55, 56, 57, 58, 59, 60, 61, 62, 63, 64, 65, 66, 67, 68, 69, 70, 71, 72, 73, 74, 75, 76, 77, 102, 103, 104, 105, 106, 107, 108, 109, 110, 111, 112, 113, 114, 115, 116, 117, 118, 119] (by decide +kernel) (by decide +kernel)
set_option maxRecDepth 20000 in
theorem gX11_count_X11_factsThereNow : GoodIn wsX11_count (wsV RX11 316 RX11 yX11_factsThereNow wsX11_factsThereNow) := goodIn_app (goodIn_of _ (by decide +kernel)) ggX11_count_X11_factsThereNow
theorem dX11_count_0 : decode cX11_count 0 = .ok (.iload_n 1, 1) := by decide +kernel
theorem dX11_count_1 : decode cX11_count 1 = .ok (.iconst 0, 1) := by decide +kernel
theorem dX11_count_2 : decode cX11_count 2 = .ok (.bipush 21, 2) := by decide +kernel
theorem dX11_count_4 : decode cX11_count 4 = .ok (.invokestatic 71, 3) := by decide +kernel
theorem dX11_count_7 : decode cX11_count 7 = .ok (.iload_n 1, 1) := by decide +kernel
theorem dX11_count_8 : decode cX11_count 8 = .ok (.tableswitch 136 0 9 #[56, 61, 69, 77, 85, 93, 98, 106, 111, 122], 56) := by decide +kernel
theorem dX11_count_64 : decode cX11_count 64 = .ok (.aload_n 0, 1) := by decide +kernel
theorem dX11_count_65 : decode cX11_count 65 = .ok (.getfield 56, 3) := by decide +kernel
theorem dX11_count_68 : decode cX11_count 68 = .ok (.ireturn, 1) := by decide +kernel
theorem dX11_count_69 : decode cX11_count 69 = .ok (.aload_n 0, 1) := by decide +kernel
theorem dX11_count_70 : decode cX11_count 70 = .ok (.getfield 20, 3) := by decide +kernel
theorem dX11_count_73 : decode cX11_count 73 = .ok (.getfield 300, 3) := by decide +kernel
theorem dX11_count_76 : decode cX11_count 76 = .ok (.ireturn, 1) := by decide +kernel
theorem dX11_count_77 : decode cX11_count 77 = .ok (.aload_n 0, 1) := by decide +kernel
theorem dX11_count_78 : decode cX11_count 78 = .ok (.getfield 20, 3) := by decide +kernel
theorem dX11_count_81 : decode cX11_count 81 = .ok (.getfield 303, 3) := by decide +kernel
theorem dX11_count_84 : decode cX11_count 84 = .ok (.ireturn, 1) := by decide +kernel
theorem dX11_count_85 : decode cX11_count 85 = .ok (.aload_n 0, 1) := by decide +kernel
theorem dX11_count_86 : decode cX11_count 86 = .ok (.getfield 20, 3) := by decide +kernel
theorem dX11_count_89 : decode cX11_count 89 = .ok (.getfield 306, 3) := by decide +kernel
theorem dX11_count_92 : decode cX11_count 92 = .ok (.ireturn, 1) := by decide +kernel
theorem dX11_count_93 : decode cX11_count 93 = .ok (.aload_n 0, 1) := by decide +kernel
theorem dX11_count_94 : decode cX11_count 94 = .ok (.getfield 20, 3) := by decide +kernel
theorem dX11_count_97 : decode cX11_count 97 = .ok (.getfield 308, 3) := by decide +kernel
theorem dX11_count_100 : decode cX11_count 100 = .ok (.ireturn, 1) := by decide +kernel
theorem dX11_count_101 : decode cX11_count 101 = .ok (.aload_n 0, 1) := by decide +kernel
theorem dX11_count_102 : decode cX11_count 102 = .ok (.getfield 151, 3) := by decide +kernel
theorem dX11_count_105 : decode cX11_count 105 = .ok (.ireturn, 1) := by decide +kernel
theorem dX11_count_106 : decode cX11_count 106 = .ok (.aload_n 0, 1) := by decide +kernel
theorem dX11_count_107 : decode cX11_count 107 = .ok (.getfield 45, 3) := by decide +kernel
theorem dX11_count_110 : decode cX11_count 110 = .ok (.getfield 269, 3) := by decide +kernel
theorem dX11_count_113 : decode cX11_count 113 = .ok (.ireturn, 1) := by decide +kernel
theorem dX11_count_114 : decode cX11_count 114 = .ok (.aload_n 0, 1) := by decide +kernel
theorem dX11_count_115 : decode cX11_count 115 = .ok (.invokevirtual 239, 3) := by decide +kernel
theorem dX11_count_118 : decode cX11_count 118 = .ok (.ireturn, 1) := by decide +kernel
theorem dX11_count_119 : decode cX11_count 119 = .ok (.aload_n 0, 1) := by decide +kernel
theorem dX11_count_120 : decode cX11_count 120 = .ok (.getfield 20, 3) := by decide +kernel
theorem dX11_count_123 : decode cX11_count 123 = .ok (.getfield 207, 3) := by decide +kernel
theorem dX11_count_126 : decode cX11_count 126 = .ok (.getfield 219, 3) := by decide +kernel
theorem dX11_count_129 : decode cX11_count 129 = .ok (.ireturn, 1) := by decide +kernel
theorem dX11_count_130 : decode cX11_count 130 = .ok (.aload_n 0, 1) := by decide +kernel
theorem dX11_count_131 : decode cX11_count 131 = .ok (.getfield 52, 3) := by decide +kernel
theorem dX11_count_134 : decode cX11_count 134 = .ok (.getfield 281, 3) := by decide +kernel
theorem dX11_count_137 : decode cX11_count 137 = .ok (.getfield 290, 3) := by decide +kernel
theorem dX11_count_140 : decode cX11_count 140 = .ok (.invokestatic 311, 3) := by decide +kernel
theorem dX11_count_143 : decode cX11_count 143 = .ok (.ireturn, 1) := by decide +kernel
theorem dX11_count_144 : decode cX11_count 144 = .ok (.aload_n 0, 1) := by decide +kernel
theorem dX11_count_145 : decode cX11_count 145 = .ok (.iload_n 1, 1) := by decide +kernel
theorem dX11_count_146 : decode cX11_count 146 = .ok (.bipush 10, 2) := by decide +kernel
theorem dX11_count_148 : decode cX11_count 148 = .ok (.isub, 1) := by decide +kernel
theorem dX11_count_149 : decode cX11_count 149 = .ok (.invokevirtual 316, 3) := by decide +kernel
theorem dX11_count_152 : decode cX11_count 152 = .ok (.ireturn, 1) := by decide +kernel
theorem dX11_putBytes_0 : decode cX11_putBytes 0 = .ok (.bipush 24, 2) := by decide +kernel
theorem dX11_putBytes_2 : decode cX11_putBytes 2 = .ok (.istore_n 2, 1) := by decide +kernel
theorem dX11_putBytes_3 : decode cX11_putBytes 3 = .ok (.iload_n 2, 1) := by decide +kernel
theorem dX11_putBytes_4 : decode cX11_putBytes 4 = .ok (.ifCond .lt 42, 3) := by decide +kernel
theorem dX11_putBytes_7 : decode cX11_putBytes 7 = .ok (.aload_n 0, 1) := by decide +kernel
theorem dX11_putBytes_8 : decode cX11_putBytes 8 = .ok (.getfield 56, 3) := by decide +kernel
theorem dX11_putBytes_11 : decode cX11_putBytes 11 = .ok (.sipush 400, 3) := by decide +kernel
theorem dX11_putBytes_14 : decode cX11_putBytes 14 = .ok (.if_icmp .ge 32, 3) := by decide +kernel
theorem dX11_putBytes_17 : decode cX11_putBytes 17 = .ok (.aload_n 0, 1) := by decide +kernel
theorem dX11_putBytes_18 : decode cX11_putBytes 18 = .ok (.getfield 9, 3) := by decide +kernel
theorem dX11_putBytes_21 : decode cX11_putBytes 21 = .ok (.aload_n 0, 1) := by decide +kernel
theorem dX11_putBytes_22 : decode cX11_putBytes 22 = .ok (.getfield 56, 3) := by decide +kernel
theorem dX11_putBytes_25 : decode cX11_putBytes 25 = .ok (.iload_n 1, 1) := by decide +kernel
theorem dX11_putBytes_26 : decode cX11_putBytes 26 = .ok (.iload_n 2, 1) := by decide +kernel
theorem dX11_putBytes_27 : decode cX11_putBytes 27 = .ok (.ishr, 1) := by decide +kernel
theorem dX11_putBytes_28 : decode cX11_putBytes 28 = .ok (.i2b, 1) := by decide +kernel
theorem dX11_putBytes_29 : decode cX11_putBytes 29 = .ok (.bastore, 1) := by decide +kernel
theorem dX11_putBytes_30 : decode cX11_putBytes 30 = .ok (.aload_n 0, 1) := by decide +kernel
theorem dX11_putBytes_31 : decode cX11_putBytes 31 = .ok (.dup, 1) := by decide +kernel
theorem dX11_putBytes_32 : decode cX11_putBytes 32 = .ok (.getfield 56, 3) := by decide +kernel
theorem dX11_putBytes_35 : decode cX11_putBytes 35 = .ok (.iconst 1, 1) := by decide +kernel
theorem dX11_putBytes_36 : decode cX11_putBytes 36 = .ok (.iadd, 1) := by decide +kernel
theorem dX11_putBytes_37 : decode cX11_putBytes 37 = .ok (.putfield 56, 3) := by decide +kernel
theorem dX11_putBytes_40 : decode cX11_putBytes 40 = .ok (.iinc 2 (-8), 3) := by decide +kernel
theorem dX11_putBytes_43 : decode cX11_putBytes 43 = .ok (.goto (-40), 3) := by decide +kernel
theorem dX11_putBytes_46 : decode cX11_putBytes 46 = .ok (.return_, 1) := by decide +kernel
set_option maxRecDepth 20000 in
theorem ggX11_requireLook_X11_requireRange : GoodIn wsX11_requireLook wsX11_requireRange := goodIn_ca (goodIn_r _ [4, 5, 6] (by decide +kernel) (by decide +kernel)) (goodIn_sub (fun _ h => List.mem_cons_of_mem _ (List.mem_append_left _ (List.mem_append_right _ h))) (by decide +kernel))
set_option maxRecDepth 20000 in
theorem gX11_requireLook_X11_requireRange : GoodIn wsX11_requireLook (va_wsS RX11 71 yX11_requireRange wsX11_requireRange) := goodIn_app (goodIn_of _ (by decide +kernel)) ggX11_requireLook_X11_requireRange
set_option maxRecDepth 20000 in
theorem ggX11_requireLook_X11_requireTime : GoodIn wsX11_requireLook wsX11_requireTime := goodIn_ca (goodIn_r _ [10, 11, 12, 13, 1, 2, 3, 4, 5, 6, 27, 28, 29, 30, 31, 32, 33, 34, 35, 36, 37, 38, 39, 40, 41, 42, 43, 44, 45, 46] (by decide +kernel) (by decide +kernel)) (goodIn_sub (fun _ h => List.mem_cons_of_mem _ (List.mem_append_left _ (List.mem_append_right _ h))) (by decide +kernel))
set_option maxRecDepth 20000 in
theorem gX11_requireLook_X11_requireTime : GoodIn wsX11_requireLook (wsV RX11 236 RX11 yX11_requireTime wsX11_requireTime) := goodIn_app (goodIn_of _ (by decide +kernel)) ggX11_requireLook_X11_requireTime
set_option maxRecDepth 20000 in
theorem ggX11_requireLook_X11_tableOf : GoodIn wsX11_requireLook wsX11_tableOf := goodIn_ca (goodIn_r _ [17, 18, 19, 11, 20, 21, 22, 23, 24, 25, 26, 27, 28, 29, 30, 31, 32, 33, 34, 35, 36, 37, 38, 39, 40, 41, 42, 43, 44, 45, 46] (by decide +kernel) (by decide +kernel)) (goodIn_sub (fun _ h => List.mem_cons_of_mem _ (List.mem_append_right _ h)) (by decide +kernel))
set_option maxRecDepth 20000 in
theorem gX11_requireLook_X11_tableOf : GoodIn wsX11_requireLook (wsV RX11 84 RX11 yX11_tableOf wsX11_tableOf) := goodIn_app (goodIn_of _ (by decide +kernel)) ggX11_requireLook_X11_tableOf
theorem dX11_requireLook_0 : decode cX11_requireLook 0 = .ok (.iload_n 2, 1) := by decide +kernel
theorem dX11_requireLook_1 : decode cX11_requireLook 1 = .ok (.iconst 0, 1) := by decide +kernel
theorem dX11_requireLook_2 : decode cX11_requireLook 2 = .ok (.bipush 15, 2) := by decide +kernel
theorem dX11_requireLook_4 : decode cX11_requireLook 4 = .ok (.invokestatic 71, 3) := by decide +kernel
theorem dX11_requireLook_7 : decode cX11_requireLook 7 = .ok (.aload_n 0, 1) := by decide +kernel
theorem dX11_requireLook_8 : decode cX11_requireLook 8 = .ok (.iload_n 3, 1) := by decide +kernel
theorem dX11_requireLook_9 : decode cX11_requireLook 9 = .ok (.invokevirtual 236, 3) := by decide +kernel
theorem dX11_requireLook_12 : decode cX11_requireLook 12 = .ok (.aload_n 0, 1) := by decide +kernel
theorem dX11_requireLook_13 : decode cX11_requireLook 13 = .ok (.iload_n 1, 1) := by decide +kernel
theorem dX11_requireLook_14 : decode cX11_requireLook 14 = .ok (.invokevirtual 84, 3) := by decide +kernel
theorem dX11_requireLook_17 : decode cX11_requireLook 17 = .ok (.pop, 1) := by decide +kernel
theorem dX11_requireLook_18 : decode cX11_requireLook 18 = .ok (.return_, 1) := by decide +kernel
set_option maxRecDepth 20000 in
theorem ggX11_beginLook_X11_requireLook : GoodIn wsX11_beginLook wsX11_requireLook := goodIn_ca (goodIn_ca (goodIn_r _ [7, 8, 9, 6, 10, 11, 12, 13, 14, 15, 16, 2, 17, 18, 19, 20, 21, 22, 23, 24, 25, 26, 27, 28, 29, 30, 31, 56, 57, 58, 59, 60, 61, 62, 63, 64, 65, 66, 67, 68, 69, 70, 71, 72, 73, 74, 75] (by decide +kernel) (by decide +kernel)) (goodIn_sub (fun _ h => List.mem_cons_of_mem _ (List.mem_append_left _ (List.mem_append_right _ h))) (by decide +kernel))) (goodIn_sub (fun _ h => List.mem_cons_of_mem _ (List.mem_append_right _ h)) (by decide +kernel))
set_option maxRecDepth 20000 in
theorem gX11_beginLook_X11_requireLook : GoodIn wsX11_beginLook (wsV RX11 162 RX11 yX11_requireLook wsX11_requireLook) := goodIn_app (goodIn_of _ (by decide +kernel)) ggX11_beginLook_X11_requireLook
set_option maxRecDepth 20000 in
theorem ggX11_beginLook_X11_tableOf : GoodIn wsX11_beginLook wsX11_tableOf := goodIn_ca (goodIn_r _ [22, 23, 24, 2, 25, 26, 27, 28, 29, 30, 31, 56, 57, 58, 59, 60, 61, 62, 63, 64, 65, 66, 67, 68, 69, 70, 71, 72, 73, 74, 75] (by decide +kernel) (by decide +kernel)) (goodIn_sub (fun _ h => List.mem_cons_of_mem _ (List.mem_append_right _ h)) (by decide +kernel))
set_option maxRecDepth 20000 in
theorem gX11_beginLook_X11_tableOf : GoodIn wsX11_beginLook (wsV RX11 84 RX11 yX11_tableOf wsX11_tableOf) := goodIn_app (goodIn_of _ (by decide +kernel)) ggX11_beginLook_X11_tableOf
set_option maxRecDepth 20000 in
theorem ggX11_beginLook_X9_timeOf : GoodIn wsX11_beginLook wsX9_timeOf := goodIn_r _ [35, 36, 68, 69, 70, 71, 72, 73, 74, 75] (by decide +kernel) (by decide +kernel)
set_option maxRecDepth 20000 in
theorem gX11_beginLook_X9_timeOf : GoodIn wsX11_beginLook (wsV RX11 244 RX9 yX9_timeOf wsX9_timeOf) := goodIn_app (goodIn_of _ (by decide +kernel)) ggX11_beginLook_X9_timeOf
theorem dX11_beginLook_0 : decode cX11_beginLook 0 = .ok (.aload_n 0, 1) := by decide +kernel
theorem dX11_beginLook_1 : decode cX11_beginLook 1 = .ok (.iload_n 2, 1) := by decide +kernel
theorem dX11_beginLook_2 : decode cX11_beginLook 2 = .ok (.iload_n 3, 1) := by decide +kernel
theorem dX11_beginLook_3 : decode cX11_beginLook 3 = .ok (.iload 4, 2) := by decide +kernel
theorem dX11_beginLook_5 : decode cX11_beginLook 5 = .ok (.invokevirtual 162, 3) := by decide +kernel
theorem dX11_beginLook_8 : decode cX11_beginLook 8 = .ok (.aload_n 1, 1) := by decide +kernel
theorem dX11_beginLook_9 : decode cX11_beginLook 9 = .ok (.aload_n 0, 1) := by decide +kernel
theorem dX11_beginLook_10 : decode cX11_beginLook 10 = .ok (.iload_n 2, 1) := by decide +kernel
theorem dX11_beginLook_11 : decode cX11_beginLook 11 = .ok (.invokevirtual 84, 3) := by decide +kernel
theorem dX11_beginLook_14 : decode cX11_beginLook 14 = .ok (.iload_n 3, 1) := by decide +kernel
theorem dX11_beginLook_15 : decode cX11_beginLook 15 = .ok (.aload_n 0, 1) := by decide +kernel
theorem dX11_beginLook_16 : decode cX11_beginLook 16 = .ok (.getfield 13, 3) := by decide +kernel
theorem dX11_beginLook_19 : decode cX11_beginLook 19 = .ok (.aload_n 0, 1) := by decide +kernel
theorem dX11_beginLook_20 : decode cX11_beginLook 20 = .ok (.getfield 20, 3) := by decide +kernel
theorem dX11_beginLook_23 : decode cX11_beginLook 23 = .ok (.iload 4, 2) := by decide +kernel
theorem dX11_beginLook_25 : decode cX11_beginLook 25 = .ok (.invokevirtual 244, 3) := by decide +kernel
theorem dX11_beginLook_28 : decode cX11_beginLook 28 = .ok (.invokevirtual 323, 3) := by decide +kernel
theorem dX11_beginLook_31 : decode cX11_beginLook 31 = .ok (.return_, 1) := by decide +kernel
set_option maxRecDepth 20000 in
theorem ggX11_factsThereNow_X9_tableAt : GoodIn wsX11_factsThereNow wsX9_tableAt := goodIn_r _ [6, 7, 8, 35, 36, 37, 38, 39, 40, 41, 42] (by decide +kernel) (by decide +kernel)
set_option maxRecDepth 20000 in
theorem gX11_factsThereNow_X9_tableAt : GoodIn wsX11_factsThereNow (wsV RX11 327 RX9 yX9_tableAt wsX9_tableAt) := goodIn_app (goodIn_of _ (by decide +kernel)) ggX11_factsThereNow_X9_tableAt
theorem dX11_factsThereNow_0 : decode cX11_factsThereNow 0 = .ok (.aload_n 0, 1) := by decide +kernel
theorem dX11_factsThereNow_1 : decode cX11_factsThereNow 1 = .ok (.getfield 20, 3) := by decide +kernel
theorem dX11_factsThereNow_4 : decode cX11_factsThereNow 4 = .ok (.iload_n 1, 1) := by decide +kernel
theorem dX11_factsThereNow_5 : decode cX11_factsThereNow 5 = .ok (.invokevirtual 327, 3) := by decide +kernel
theorem dX11_factsThereNow_8 : decode cX11_factsThereNow 8 = .ok (.astore_n 2, 1) := by decide +kernel
theorem dX11_factsThereNow_9 : decode cX11_factsThereNow 9 = .ok (.aload_n 2, 1) := by decide +kernel
theorem dX11_factsThereNow_10 : decode cX11_factsThereNow 10 = .ok (.ifnonnull 7, 3) := by decide +kernel
theorem dX11_factsThereNow_13 : decode cX11_factsThereNow 13 = .ok (.iconst (-1), 1) := by decide +kernel
theorem dX11_factsThereNow_14 : decode cX11_factsThereNow 14 = .ok (.goto 7, 3) := by decide +kernel
theorem dX11_factsThereNow_17 : decode cX11_factsThereNow 17 = .ok (.aload_n 2, 1) := by decide +kernel
theorem dX11_factsThereNow_18 : decode cX11_factsThereNow 18 = .ok (.invokevirtual 330, 3) := by decide +kernel
theorem dX11_factsThereNow_21 : decode cX11_factsThereNow 21 = .ok (.ireturn, 1) := by decide +kernel
theorem dX11_openCursors_0 : decode cX11_openCursors 0 = .ok (.iconst 0, 1) := by decide +kernel
theorem dX11_openCursors_1 : decode cX11_openCursors 1 = .ok (.istore_n 1, 1) := by decide +kernel
theorem dX11_openCursors_2 : decode cX11_openCursors 2 = .ok (.iconst 0, 1) := by decide +kernel
theorem dX11_openCursors_3 : decode cX11_openCursors 3 = .ok (.istore_n 2, 1) := by decide +kernel
theorem dX11_openCursors_4 : decode cX11_openCursors 4 = .ok (.iload_n 2, 1) := by decide +kernel
theorem dX11_openCursors_5 : decode cX11_openCursors 5 = .ok (.bipush 10, 2) := by decide +kernel
theorem dX11_openCursors_7 : decode cX11_openCursors 7 = .ok (.if_icmp .ge 21, 3) := by decide +kernel
theorem dX11_openCursors_10 : decode cX11_openCursors 10 = .ok (.aload_n 0, 1) := by decide +kernel
theorem dX11_openCursors_11 : decode cX11_openCursors 11 = .ok (.getfield 30, 3) := by decide +kernel
theorem dX11_openCursors_14 : decode cX11_openCursors 14 = .ok (.iload_n 2, 1) := by decide +kernel
theorem dX11_openCursors_15 : decode cX11_openCursors 15 = .ok (.baload, 1) := by decide +kernel
theorem dX11_openCursors_16 : decode cX11_openCursors 16 = .ok (.ifCond .eq 6, 3) := by decide +kernel
theorem dX11_openCursors_19 : decode cX11_openCursors 19 = .ok (.iinc 1 1, 3) := by decide +kernel
theorem dX11_openCursors_22 : decode cX11_openCursors 22 = .ok (.iinc 2 1, 3) := by decide +kernel
theorem dX11_openCursors_25 : decode cX11_openCursors 25 = .ok (.goto (-21), 3) := by decide +kernel
theorem dX11_openCursors_28 : decode cX11_openCursors 28 = .ok (.iload_n 1, 1) := by decide +kernel
theorem dX11_openCursors_29 : decode cX11_openCursors 29 = .ok (.ireturn, 1) := by decide +kernel
set_option maxRecDepth 20000 in
theorem ggX11_requireOpen_X11_requireRange : GoodIn wsX11_requireOpen wsX11_requireRange := goodIn_ca (goodIn_r _ [7, 8, 9] (by decide +kernel) (by decide +kernel)) (goodIn_sub (fun _ h => List.mem_cons_of_mem _ (List.mem_append_right _ h)) (by decide +kernel))
set_option maxRecDepth 20000 in
theorem gX11_requireOpen_X11_requireRange : GoodIn wsX11_requireOpen (va_wsS RX11 71 yX11_requireRange wsX11_requireRange) := goodIn_app (goodIn_of _ (by decide +kernel)) ggX11_requireOpen_X11_requireRange
theorem dX11_requireOpen_0 : decode cX11_requireOpen 0 = .ok (.iload_n 1, 1) := by decide +kernel
theorem dX11_requireOpen_1 : decode cX11_requireOpen 1 = .ok (.iconst 0, 1) := by decide +kernel
theorem dX11_requireOpen_2 : decode cX11_requireOpen 2 = .ok (.bipush 9, 2) := by decide +kernel
theorem dX11_requireOpen_4 : decode cX11_requireOpen 4 = .ok (.invokestatic 71, 3) := by decide +kernel
theorem dX11_requireOpen_7 : decode cX11_requireOpen 7 = .ok (.aload_n 0, 1) := by decide +kernel
theorem dX11_requireOpen_8 : decode cX11_requireOpen 8 = .ok (.getfield 30, 3) := by decide +kernel
theorem dX11_requireOpen_11 : decode cX11_requireOpen 11 = .ok (.iload_n 1, 1) := by decide +kernel
theorem dX11_requireOpen_12 : decode cX11_requireOpen 12 = .ok (.baload, 1) := by decide +kernel
theorem dX11_requireOpen_13 : decode cX11_requireOpen 13 = .ok (.ifCond .ne 14, 3) := by decide +kernel
theorem dX11_requireOpen_16 : decode cX11_requireOpen 16 = .ok (.new 180, 3) := by decide +kernel
theorem dX11_requireOpen_19 : decode cX11_requireOpen 19 = .ok (.dup, 1) := by decide +kernel
theorem dX11_requireOpen_20 : decode cX11_requireOpen 20 = .ok (.ldc_w 332, 3) := by decide +kernel
theorem dX11_requireOpen_23 : decode cX11_requireOpen 23 = .ok (.invokespecial 184, 3) := by decide +kernel
theorem dX11_requireOpen_26 : decode cX11_requireOpen 26 = .ok (.athrow, 1) := by decide +kernel
theorem dX11_requireOpen_27 : decode cX11_requireOpen 27 = .ok (.return_, 1) := by decide +kernel
set_option maxRecDepth 20000 in
theorem ggX11_tableOf_X9_tableAt : GoodIn wsX11_tableOf wsX9_tableAt := goodIn_r _ [8, 9, 10, 23, 24, 25, 26, 27, 28, 29, 30] (by decide +kernel) (by decide +kernel)
set_option maxRecDepth 20000 in
theorem gX11_tableOf_X9_tableAt : GoodIn wsX11_tableOf (wsV RX11 327 RX9 yX9_tableAt wsX9_tableAt) := goodIn_app (goodIn_of _ (by decide +kernel)) ggX11_tableOf_X9_tableAt
theorem dX11_tableOf_0 : decode cX11_tableOf 0 = .ok (.aload_n 0, 1) := by decide +kernel
theorem dX11_tableOf_1 : decode cX11_tableOf 1 = .ok (.getfield 20, 3) := by decide +kernel
theorem dX11_tableOf_4 : decode cX11_tableOf 4 = .ok (.iload_n 1, 1) := by decide +kernel
theorem dX11_tableOf_5 : decode cX11_tableOf 5 = .ok (.invokevirtual 327, 3) := by decide +kernel
theorem dX11_tableOf_8 : decode cX11_tableOf 8 = .ok (.astore_n 2, 1) := by decide +kernel
theorem dX11_tableOf_9 : decode cX11_tableOf 9 = .ok (.aload_n 2, 1) := by decide +kernel
theorem dX11_tableOf_10 : decode cX11_tableOf 10 = .ok (.ifnonnull 14, 3) := by decide +kernel
theorem dX11_tableOf_13 : decode cX11_tableOf 13 = .ok (.new 180, 3) := by decide +kernel
theorem dX11_tableOf_16 : decode cX11_tableOf 16 = .ok (.dup, 1) := by decide +kernel
theorem dX11_tableOf_17 : decode cX11_tableOf 17 = .ok (.ldc_w 334, 3) := by decide +kernel
theorem dX11_tableOf_20 : decode cX11_tableOf 20 = .ok (.invokespecial 184, 3) := by decide +kernel
theorem dX11_tableOf_23 : decode cX11_tableOf 23 = .ok (.athrow, 1) := by decide +kernel
theorem dX11_tableOf_24 : decode cX11_tableOf 24 = .ok (.aload_n 2, 1) := by decide +kernel
theorem dX11_tableOf_25 : decode cX11_tableOf 25 = .ok (.areturn, 1) := by decide +kernel
set_option maxRecDepth 20000 in
theorem ggX11_requireTime_X11_requireRange : GoodIn wsX11_requireTime wsX11_requireRange := goodIn_ca (goodIn_r _ [7, 8, 9] (by decide +kernel) (by decide +kernel)) (goodIn_sub (fun _ h => List.mem_cons_of_mem _ (List.mem_append_right _ h)) (by decide +kernel))
set_option maxRecDepth 20000 in
theorem gX11_requireTime_X11_requireRange : GoodIn wsX11_requireTime (va_wsS RX11 71 yX11_requireRange wsX11_requireRange) := goodIn_app (goodIn_of _ (by decide +kernel)) ggX11_requireTime_X11_requireRange
theorem dX11_requireTime_0 : decode cX11_requireTime 0 = .ok (.iload_n 1, 1) := by decide +kernel
theorem dX11_requireTime_1 : decode cX11_requireTime 1 = .ok (.iconst (-1), 1) := by decide +kernel
theorem dX11_requireTime_2 : decode cX11_requireTime 2 = .ok (.if_icmp .eq 21, 3) := by decide +kernel
theorem dX11_requireTime_5 : decode cX11_requireTime 5 = .ok (.iload_n 1, 1) := by decide +kernel
theorem dX11_requireTime_6 : decode cX11_requireTime 6 = .ok (.aload_n 0, 1) := by decide +kernel
theorem dX11_requireTime_7 : decode cX11_requireTime 7 = .ok (.getfield 20, 3) := by decide +kernel
theorem dX11_requireTime_10 : decode cX11_requireTime 10 = .ok (.getfield 308, 3) := by decide +kernel
theorem dX11_requireTime_13 : decode cX11_requireTime 13 = .ok (.aload_n 0, 1) := by decide +kernel
theorem dX11_requireTime_14 : decode cX11_requireTime 14 = .ok (.getfield 20, 3) := by decide +kernel
theorem dX11_requireTime_17 : decode cX11_requireTime 17 = .ok (.getfield 303, 3) := by decide +kernel
theorem dX11_requireTime_20 : decode cX11_requireTime 20 = .ok (.invokestatic 71, 3) := by decide +kernel
theorem dX11_requireTime_23 : decode cX11_requireTime 23 = .ok (.return_, 1) := by decide +kernel
theorem dX11_requireRange_0 : decode cX11_requireRange 0 = .ok (.iload_n 0, 1) := by decide +kernel
theorem dX11_requireRange_1 : decode cX11_requireRange 1 = .ok (.iload_n 1, 1) := by decide +kernel
theorem dX11_requireRange_2 : decode cX11_requireRange 2 = .ok (.if_icmp .lt 8, 3) := by decide +kernel
theorem dX11_requireRange_5 : decode cX11_requireRange 5 = .ok (.iload_n 0, 1) := by decide +kernel
theorem dX11_requireRange_6 : decode cX11_requireRange 6 = .ok (.iload_n 2, 1) := by decide +kernel
theorem dX11_requireRange_7 : decode cX11_requireRange 7 = .ok (.if_icmp .le 14, 3) := by decide +kernel
theorem dX11_requireRange_10 : decode cX11_requireRange 10 = .ok (.new 336, 3) := by decide +kernel
theorem dX11_requireRange_13 : decode cX11_requireRange 13 = .ok (.dup, 1) := by decide +kernel
theorem dX11_requireRange_14 : decode cX11_requireRange 14 = .ok (.ldc_w 338, 3) := by decide +kernel
theorem dX11_requireRange_17 : decode cX11_requireRange 17 = .ok (.invokespecial 340, 3) := by decide +kernel
theorem dX11_requireRange_20 : decode cX11_requireRange 20 = .ok (.athrow, 1) := by decide +kernel
theorem dX11_requireRange_21 : decode cX11_requireRange 21 = .ok (.return_, 1) := by decide +kernel
theorem dJ6_bitCount_0f7a4_0 : decode cJ6_bitCount_0f7a4 0 = .ok (.iload_n 0, 1) := by decide +kernel
theorem dJ6_bitCount_0f7a4_1 : decode cJ6_bitCount_0f7a4 1 = .ok (.iload_n 0, 1) := by decide +kernel
theorem dJ6_bitCount_0f7a4_2 : decode cJ6_bitCount_0f7a4 2 = .ok (.iconst 1, 1) := by decide +kernel
theorem dJ6_bitCount_0f7a4_3 : decode cJ6_bitCount_0f7a4 3 = .ok (.iushr, 1) := by decide +kernel
theorem dJ6_bitCount_0f7a4_4 : decode cJ6_bitCount_0f7a4 4 = .ok (.ldc_w 265, 3) := by decide +kernel
theorem dJ6_bitCount_0f7a4_7 : decode cJ6_bitCount_0f7a4 7 = .ok (.iand, 1) := by decide +kernel
theorem dJ6_bitCount_0f7a4_8 : decode cJ6_bitCount_0f7a4 8 = .ok (.isub, 1) := by decide +kernel
theorem dJ6_bitCount_0f7a4_9 : decode cJ6_bitCount_0f7a4 9 = .ok (.istore_n 0, 1) := by decide +kernel
theorem dJ6_bitCount_0f7a4_10 : decode cJ6_bitCount_0f7a4 10 = .ok (.iload_n 0, 1) := by decide +kernel
theorem dJ6_bitCount_0f7a4_11 : decode cJ6_bitCount_0f7a4 11 = .ok (.ldc_w 266, 3) := by decide +kernel
theorem dJ6_bitCount_0f7a4_14 : decode cJ6_bitCount_0f7a4 14 = .ok (.iand, 1) := by decide +kernel
theorem dJ6_bitCount_0f7a4_15 : decode cJ6_bitCount_0f7a4 15 = .ok (.iload_n 0, 1) := by decide +kernel
theorem dJ6_bitCount_0f7a4_16 : decode cJ6_bitCount_0f7a4 16 = .ok (.iconst 2, 1) := by decide +kernel
theorem dJ6_bitCount_0f7a4_17 : decode cJ6_bitCount_0f7a4 17 = .ok (.iushr, 1) := by decide +kernel
theorem dJ6_bitCount_0f7a4_18 : decode cJ6_bitCount_0f7a4 18 = .ok (.ldc_w 266, 3) := by decide +kernel
theorem dJ6_bitCount_0f7a4_21 : decode cJ6_bitCount_0f7a4 21 = .ok (.iand, 1) := by decide +kernel
theorem dJ6_bitCount_0f7a4_22 : decode cJ6_bitCount_0f7a4 22 = .ok (.iadd, 1) := by decide +kernel
theorem dJ6_bitCount_0f7a4_23 : decode cJ6_bitCount_0f7a4 23 = .ok (.istore_n 0, 1) := by decide +kernel
theorem dJ6_bitCount_0f7a4_24 : decode cJ6_bitCount_0f7a4 24 = .ok (.iload_n 0, 1) := by decide +kernel
theorem dJ6_bitCount_0f7a4_25 : decode cJ6_bitCount_0f7a4 25 = .ok (.iload_n 0, 1) := by decide +kernel
theorem dJ6_bitCount_0f7a4_26 : decode cJ6_bitCount_0f7a4 26 = .ok (.iconst 4, 1) := by decide +kernel
theorem dJ6_bitCount_0f7a4_27 : decode cJ6_bitCount_0f7a4 27 = .ok (.iushr, 1) := by decide +kernel
theorem dJ6_bitCount_0f7a4_28 : decode cJ6_bitCount_0f7a4 28 = .ok (.iadd, 1) := by decide +kernel
theorem dJ6_bitCount_0f7a4_29 : decode cJ6_bitCount_0f7a4 29 = .ok (.ldc_w 267, 3) := by decide +kernel
theorem dJ6_bitCount_0f7a4_32 : decode cJ6_bitCount_0f7a4 32 = .ok (.iand, 1) := by decide +kernel
theorem dJ6_bitCount_0f7a4_33 : decode cJ6_bitCount_0f7a4 33 = .ok (.istore_n 0, 1) := by decide +kernel
theorem dJ6_bitCount_0f7a4_34 : decode cJ6_bitCount_0f7a4 34 = .ok (.iload_n 0, 1) := by decide +kernel
theorem dJ6_bitCount_0f7a4_35 : decode cJ6_bitCount_0f7a4 35 = .ok (.iload_n 0, 1) := by decide +kernel
theorem dJ6_bitCount_0f7a4_36 : decode cJ6_bitCount_0f7a4 36 = .ok (.bipush 8, 2) := by decide +kernel
theorem dJ6_bitCount_0f7a4_38 : decode cJ6_bitCount_0f7a4 38 = .ok (.iushr, 1) := by decide +kernel
theorem dJ6_bitCount_0f7a4_39 : decode cJ6_bitCount_0f7a4 39 = .ok (.iadd, 1) := by decide +kernel
theorem dJ6_bitCount_0f7a4_40 : decode cJ6_bitCount_0f7a4 40 = .ok (.istore_n 0, 1) := by decide +kernel
theorem dJ6_bitCount_0f7a4_41 : decode cJ6_bitCount_0f7a4 41 = .ok (.iload_n 0, 1) := by decide +kernel
theorem dJ6_bitCount_0f7a4_42 : decode cJ6_bitCount_0f7a4 42 = .ok (.iload_n 0, 1) := by decide +kernel
theorem dJ6_bitCount_0f7a4_43 : decode cJ6_bitCount_0f7a4 43 = .ok (.bipush 16, 2) := by decide +kernel
theorem dJ6_bitCount_0f7a4_45 : decode cJ6_bitCount_0f7a4 45 = .ok (.iushr, 1) := by decide +kernel
theorem dJ6_bitCount_0f7a4_46 : decode cJ6_bitCount_0f7a4 46 = .ok (.iadd, 1) := by decide +kernel
theorem dJ6_bitCount_0f7a4_47 : decode cJ6_bitCount_0f7a4 47 = .ok (.istore_n 0, 1) := by decide +kernel
theorem dJ6_bitCount_0f7a4_48 : decode cJ6_bitCount_0f7a4 48 = .ok (.iload_n 0, 1) := by decide +kernel
theorem dJ6_bitCount_0f7a4_49 : decode cJ6_bitCount_0f7a4 49 = .ok (.bipush 63, 2) := by decide +kernel
theorem dJ6_bitCount_0f7a4_51 : decode cJ6_bitCount_0f7a4 51 = .ok (.iand, 1) := by decide +kernel
theorem dJ6_bitCount_0f7a4_52 : decode cJ6_bitCount_0f7a4 52 = .ok (.ireturn, 1) := by decide +kernel
theorem dJ9_max_7cf53_0 : decode cJ9_max_7cf53 0 = .ok (.iload_n 0, 1) := by decide +kernel
theorem dJ9_max_7cf53_1 : decode cJ9_max_7cf53 1 = .ok (.iload_n 1, 1) := by decide +kernel
theorem dJ9_max_7cf53_2 : decode cJ9_max_7cf53 2 = .ok (.if_icmp .lt 7, 3) := by decide +kernel
theorem dJ9_max_7cf53_5 : decode cJ9_max_7cf53 5 = .ok (.iload_n 0, 1) := by decide +kernel
theorem dJ9_max_7cf53_6 : decode cJ9_max_7cf53 6 = .ok (.goto 4, 3) := by decide +kernel
theorem dJ9_max_7cf53_9 : decode cJ9_max_7cf53 9 = .ok (.iload_n 1, 1) := by decide +kernel
theorem dJ9_max_7cf53_10 : decode cJ9_max_7cf53 10 = .ok (.ireturn, 1) := by decide +kernel
theorem dJ9_min_7cf53_0 : decode cJ9_min_7cf53 0 = .ok (.iload_n 0, 1) := by decide +kernel
theorem dJ9_min_7cf53_1 : decode cJ9_min_7cf53 1 = .ok (.iload_n 1, 1) := by decide +kernel
theorem dJ9_min_7cf53_2 : decode cJ9_min_7cf53 2 = .ok (.if_icmp .gt 7, 3) := by decide +kernel
theorem dJ9_min_7cf53_5 : decode cJ9_min_7cf53 5 = .ok (.iload_n 0, 1) := by decide +kernel
theorem dJ9_min_7cf53_6 : decode cJ9_min_7cf53 6 = .ok (.goto 4, 3) := by decide +kernel
theorem dJ9_min_7cf53_9 : decode cJ9_min_7cf53 9 = .ok (.iload_n 1, 1) := by decide +kernel
theorem dJ9_min_7cf53_10 : decode cJ9_min_7cf53 10 = .ok (.ireturn, 1) := by decide +kernel
abbrev vwCl : List vw_C := [(RX0, TX0, 5), (RX1, TX1, 7), (RX2, TX2, 6), (RX3, TX3, 5), (RX4, TX4, 2), (RX5, TX5, 8), (RX6, TX6, 8), (RX7, TX7, 3), (RX8, TX8, 8), (RX9, TX9, 8), (RX10, TX10, 6), (RX11, TX11, 12), (RX12, TX12, 57)]
