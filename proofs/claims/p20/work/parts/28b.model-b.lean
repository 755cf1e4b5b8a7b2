/-! contracts out of the words (model-b), laid by wip/p4/y/gen5.py -/
set_option linter.unusedVariables false
theorem dX12_fits_0 : decode cX12_fits 0 = .ok (.aload_n 0, 1) := by decide +kernel
theorem dX12_fits_1 : decode cX12_fits 1 = .ok (.getfield 21, 3) := by decide +kernel
theorem dX12_fits_4 : decode cX12_fits 4 = .ok (.aload_n 0, 1) := by decide +kernel
theorem dX12_fits_5 : decode cX12_fits 5 = .ok (.getfield 43, 3) := by decide +kernel
theorem dX12_fits_8 : decode cX12_fits 8 = .ok (.iload_n 1, 1) := by decide +kernel
theorem dX12_fits_9 : decode cX12_fits 9 = .ok (.iaload, 1) := by decide +kernel
theorem dX12_fits_10 : decode cX12_fits 10 = .ok (.iaload, 1) := by decide +kernel
theorem dX12_fits_11 : decode cX12_fits 11 = .ok (.istore 5, 2) := by decide +kernel
theorem dX12_fits_13 : decode cX12_fits 13 = .ok (.iconst 0, 1) := by decide +kernel
theorem dX12_fits_14 : decode cX12_fits 14 = .ok (.istore 6, 2) := by decide +kernel
theorem dX12_fits_16 : decode cX12_fits 16 = .ok (.iload 6, 2) := by decide +kernel
theorem dX12_fits_18 : decode cX12_fits 18 = .ok (.iload 5, 2) := by decide +kernel
theorem dX12_fits_20 : decode cX12_fits 20 = .ok (.if_icmp .ge 42, 3) := by decide +kernel
theorem dX12_fits_23 : decode cX12_fits 23 = .ok (.iload_n 2, 1) := by decide +kernel
theorem dX12_fits_24 : decode cX12_fits 24 = .ok (.iload 6, 2) := by decide +kernel
theorem dX12_fits_26 : decode cX12_fits 26 = .ok (.ishr, 1) := by decide +kernel
theorem dX12_fits_27 : decode cX12_fits 27 = .ok (.iconst 1, 1) := by decide +kernel
theorem dX12_fits_28 : decode cX12_fits 28 = .ok (.iand, 1) := by decide +kernel
theorem dX12_fits_29 : decode cX12_fits 29 = .ok (.iconst 1, 1) := by decide +kernel
theorem dX12_fits_30 : decode cX12_fits 30 = .ok (.if_icmp .ne 26, 3) := by decide +kernel
theorem dX12_fits_33 : decode cX12_fits 33 = .ok (.aload_n 0, 1) := by decide +kernel
theorem dX12_fits_34 : decode cX12_fits 34 = .ok (.getfield 46, 3) := by decide +kernel
theorem dX12_fits_37 : decode cX12_fits 37 = .ok (.iconst 4, 1) := by decide +kernel
theorem dX12_fits_38 : decode cX12_fits 38 = .ok (.iload_n 1, 1) := by decide +kernel
theorem dX12_fits_39 : decode cX12_fits 39 = .ok (.imul, 1) := by decide +kernel
theorem dX12_fits_40 : decode cX12_fits 40 = .ok (.iload 6, 2) := by decide +kernel
theorem dX12_fits_42 : decode cX12_fits 42 = .ok (.iadd, 1) := by decide +kernel
theorem dX12_fits_43 : decode cX12_fits 43 = .ok (.iaload, 1) := by decide +kernel
theorem dX12_fits_44 : decode cX12_fits 44 = .ok (.aload_n 3, 1) := by decide +kernel
theorem dX12_fits_45 : decode cX12_fits 45 = .ok (.iload 4, 2) := by decide +kernel
theorem dX12_fits_47 : decode cX12_fits 47 = .ok (.iload 6, 2) := by decide +kernel
theorem dX12_fits_49 : decode cX12_fits 49 = .ok (.iadd, 1) := by decide +kernel
theorem dX12_fits_50 : decode cX12_fits 50 = .ok (.iaload, 1) := by decide +kernel
theorem dX12_fits_51 : decode cX12_fits 51 = .ok (.if_icmp .eq 5, 3) := by decide +kernel
theorem dX12_fits_54 : decode cX12_fits 54 = .ok (.iconst 0, 1) := by decide +kernel
theorem dX12_fits_55 : decode cX12_fits 55 = .ok (.ireturn, 1) := by decide +kernel
theorem dX12_fits_56 : decode cX12_fits 56 = .ok (.iinc 6 1, 3) := by decide +kernel
theorem dX12_fits_59 : decode cX12_fits 59 = .ok (.goto (-43), 3) := by decide +kernel
theorem dX12_fits_62 : decode cX12_fits 62 = .ok (.iconst 1, 1) := by decide +kernel
theorem dX12_fits_63 : decode cX12_fits 63 = .ok (.ireturn, 1) := by decide +kernel
set_option maxHeartbeats 4000000 in
set_option maxRecDepth 100000 in
theorem T_X12_fits (l : Launch) (hl : l.stackTraces = false) (D : va_G) (cA : Nat → ClassId) {l0 : Option Nat} {l1 : Int32} {l2 : Int32} {l3 : Option Nat} {l4 : Int32} {x : HS} {Q : Int32 → HS → Prop} {X : String → HS → Prop} (h : w_X12_fits l0 l1 l2 l3 l4 x Q X) : YI l yX12_fits wsX12_fits 0 0 D cA [.q l0, .i l1, .i l2, .q l3, .i l4] x Q X := by
  refine YI.of (cc := cX12_fits) (maxL := 7) (ret := (some .boolean)) hl (by decide) rfl rfl (fun g B fr => ?_)
  have o := B.o
  have hb := B.hb
  have hts := B.hts
  have hown : g.s.vm.findClass RX12 = some g.m.cls := B.hown
  have in12 : ∀ w ∈ u_ws RX12 TX12 57, w ∈ wsX12_fits := fun w h => (List.mem_cons_of_mem _ (List.mem_append_right _ h))
  unfold w_X12_fits at h
  show KW g 7 0 [(0, .q l0), (1, .i l1), (2, .i l2), (3, .q l3), (4, .i l4)] [] x
  refine k_aload_n o hb dX12_fits_0 rfl 0 rfl ?_
  refine k_getF (C := RX12) (T := TX12) (N := 57) o hb hts in12 hown rfl (by decide) 4 (by decide) rfl (hts (.fieldLink RX12 21 "FactKeeperModel" "columns" "[I") (by decide +kernel)) (fun _ h9 => h9) dX12_fits_1 h (fun v1 h => ?_)
  refine k_aload_n o hb dX12_fits_4 rfl 0 rfl ?_
  refine k_getF (C := RX12) (T := TX12) (N := 57) o hb hts in12 hown rfl (by decide) 12 (by decide) rfl (hts (.fieldLink RX12 43 "FactKeeperModel" "table" "[I") (by decide +kernel)) (fun _ h9 => h9) dX12_fits_5 h (fun v2 h => ?_)
  refine k_iload_n o hb dX12_fits_8 rfl 1 rfl ?_
  refine k_iald o hb dX12_fits_9 h (fun v3 h => ?_)
  refine k_iald o hb dX12_fits_10 h (fun v4 h => ?_)
  refine k_istore o hb dX12_fits_11 rfl ?_
  refine k_iconst (v := 0) o hb dX12_fits_13 (by decide) ?_
  refine k_istore o hb dX12_fits_14 rfl ?_
  refine KW.sub [2, 3, 4, 5, 6, 1, 0] rfl ?_
  refine wLoop_elim (M := fun (v8 : Int32) (x7 : HS) => KW g 7 16 [(0, .q l0), (1, .i l1), (2, .i l2), (3, .q l3), (4, .i l4), (5, .i v4), (6, .i v8)] [] x7) h ?_
  intro v8 x7 again5 ih6 h
  refine k_iload o hb dX12_fits_16 6 rfl ?_
  refine k_iload o hb dX12_fits_18 5 rfl ?_
  refine k_icmp_ge (tgt := 62) o hb dX12_fits_20 (by decide) h (fun h => ?_) (fun h => ?_)
  · skip
    refine k_iconst (v := 1) o hb dX12_fits_62 (by decide) ?_
    exact k_zret o hb B.hr fr dX12_fits_63 h
  · skip
    refine k_iload_n o hb dX12_fits_23 rfl 2 rfl ?_
    refine k_iload o hb dX12_fits_24 6 rfl ?_
    refine k_ishr o hb dX12_fits_26 ?_
    refine k_iconst (v := 1) o hb dX12_fits_27 (by decide) ?_
    refine k_iand o hb dX12_fits_28 ?_
    refine k_iconst (v := 1) o hb dX12_fits_29 (by decide) ?_
    refine wJoin_elim (M := fun K => ∀  (x10 : HS), K  x10 → KW g 7 56 [(0, .q l0), (1, .i l1), (2, .i l2), (3, .q l3), (4, .i l4), (5, .i v4), (6, .i v8)] [] x10) h ?_ (fun j9 hj9 h => ?_)
    · skip
      intro  x10 h
      refine k_iinc (w := 1) o hb dX12_fits_56 6 rfl (by decide) rfl ?_
      refine k_goto (tgt := 16) o hb dX12_fits_59 (by decide) ?_
      exact KW.sub [1, 2, 3, 4, 5, 6, 0] rfl (ih6 (v8 + 1) x10 h)
    · skip
      refine k_icmp_ne (tgt := 56) o hb dX12_fits_30 (by decide) h (fun h => ?_) (fun h => ?_)
      · skip
        refine k_aload_n o hb dX12_fits_33 rfl 0 rfl ?_
        refine k_getF (C := RX12) (T := TX12) (N := 57) o hb hts in12 hown rfl (by decide) 13 (by decide) rfl (hts (.fieldLink RX12 46 "FactKeeperModel" "column" "[I") (by decide +kernel)) (fun _ h9 => h9) dX12_fits_34 h (fun v11 h => ?_)
        refine k_iconst (v := 4) o hb dX12_fits_37 (by decide) ?_
        refine k_iload_n o hb dX12_fits_38 rfl 1 rfl ?_
        refine k_imul o hb dX12_fits_39 ?_
        refine k_iload o hb dX12_fits_40 6 rfl ?_
        refine k_iadd o hb dX12_fits_42 ?_
        refine k_iald o hb dX12_fits_43 h (fun v12 h => ?_)
        refine k_aload_n o hb dX12_fits_44 rfl 3 rfl ?_
        refine k_iload o hb dX12_fits_45 4 rfl ?_
        refine k_iload o hb dX12_fits_47 6 rfl ?_
        refine k_iadd o hb dX12_fits_49 ?_
        refine k_iald o hb dX12_fits_50 h (fun v13 h => ?_)
        refine k_icmp_eq (tgt := 56) o hb dX12_fits_51 (by decide) h (fun h => ?_) (fun h => ?_)
        · skip
          exact KW.sub [0, 1, 2, 3, 4, 5, 6] rfl (hj9 x7 h)
        · skip
          refine k_iconst (v := 0) o hb dX12_fits_54 (by decide) ?_
          exact k_zret o hb B.hr fr dX12_fits_55 h
      · skip
        exact KW.sub [0, 1, 2, 3, 4, 5, 6] rfl (hj9 x7 h)
theorem dX12_indexOf_0 : decode cX12_indexOf 0 = .ok (.iconst 0, 1) := by decide +kernel
theorem dX12_indexOf_1 : decode cX12_indexOf 1 = .ok (.istore_n 3, 1) := by decide +kernel
theorem dX12_indexOf_2 : decode cX12_indexOf 2 = .ok (.iload_n 3, 1) := by decide +kernel
theorem dX12_indexOf_3 : decode cX12_indexOf 3 = .ok (.aload_n 0, 1) := by decide +kernel
theorem dX12_indexOf_4 : decode cX12_indexOf 4 = .ok (.getfield 21, 3) := by decide +kernel
theorem dX12_indexOf_7 : decode cX12_indexOf 7 = .ok (.iload_n 1, 1) := by decide +kernel
theorem dX12_indexOf_8 : decode cX12_indexOf 8 = .ok (.iaload, 1) := by decide +kernel
theorem dX12_indexOf_9 : decode cX12_indexOf 9 = .ok (.if_icmp .ge 34, 3) := by decide +kernel
theorem dX12_indexOf_12 : decode cX12_indexOf 12 = .ok (.iload_n 2, 1) := by decide +kernel
theorem dX12_indexOf_13 : decode cX12_indexOf 13 = .ok (.iload_n 3, 1) := by decide +kernel
theorem dX12_indexOf_14 : decode cX12_indexOf 14 = .ok (.ishr, 1) := by decide +kernel
theorem dX12_indexOf_15 : decode cX12_indexOf 15 = .ok (.iconst 1, 1) := by decide +kernel
theorem dX12_indexOf_16 : decode cX12_indexOf 16 = .ok (.iand, 1) := by decide +kernel
theorem dX12_indexOf_17 : decode cX12_indexOf 17 = .ok (.iconst 1, 1) := by decide +kernel
theorem dX12_indexOf_18 : decode cX12_indexOf 18 = .ok (.if_icmp .ne 19, 3) := by decide +kernel
theorem dX12_indexOf_21 : decode cX12_indexOf 21 = .ok (.aload_n 0, 1) := by decide +kernel
theorem dX12_indexOf_22 : decode cX12_indexOf 22 = .ok (.getfield 24, 3) := by decide +kernel
theorem dX12_indexOf_25 : decode cX12_indexOf 25 = .ok (.iload_n 1, 1) := by decide +kernel
theorem dX12_indexOf_26 : decode cX12_indexOf 26 = .ok (.iaload, 1) := by decide +kernel
theorem dX12_indexOf_27 : decode cX12_indexOf 27 = .ok (.iload_n 3, 1) := by decide +kernel
theorem dX12_indexOf_28 : decode cX12_indexOf 28 = .ok (.ishr, 1) := by decide +kernel
theorem dX12_indexOf_29 : decode cX12_indexOf 29 = .ok (.iconst 1, 1) := by decide +kernel
theorem dX12_indexOf_30 : decode cX12_indexOf 30 = .ok (.iand, 1) := by decide +kernel
theorem dX12_indexOf_31 : decode cX12_indexOf 31 = .ok (.iconst 1, 1) := by decide +kernel
theorem dX12_indexOf_32 : decode cX12_indexOf 32 = .ok (.if_icmp .ne 5, 3) := by decide +kernel
theorem dX12_indexOf_35 : decode cX12_indexOf 35 = .ok (.iload_n 3, 1) := by decide +kernel
theorem dX12_indexOf_36 : decode cX12_indexOf 36 = .ok (.ireturn, 1) := by decide +kernel
theorem dX12_indexOf_37 : decode cX12_indexOf 37 = .ok (.iinc 3 1, 3) := by decide +kernel
theorem dX12_indexOf_40 : decode cX12_indexOf 40 = .ok (.goto (-38), 3) := by decide +kernel
theorem dX12_indexOf_43 : decode cX12_indexOf 43 = .ok (.iconst (-1), 1) := by decide +kernel
theorem dX12_indexOf_44 : decode cX12_indexOf 44 = .ok (.ireturn, 1) := by decide +kernel
set_option maxHeartbeats 4000000 in
set_option maxRecDepth 100000 in
theorem T_X12_indexOf (l : Launch) (hl : l.stackTraces = false) (D : va_G) (cA : Nat → ClassId) {l0 : Option Nat} {l1 : Int32} {l2 : Int32} {x : HS} {Q : Int32 → HS → Prop} {X : String → HS → Prop} (h : w_X12_indexOf l0 l1 l2 x Q X) : YI l yX12_indexOf wsX12_indexOf 0 0 D cA [.q l0, .i l1, .i l2] x Q X := by
  refine YI.of (cc := cX12_indexOf) (maxL := 4) (ret := (some .int)) hl (by decide) rfl rfl (fun g B fr => ?_)
  have o := B.o
  have hb := B.hb
  have hts := B.hts
  have hown : g.s.vm.findClass RX12 = some g.m.cls := B.hown
  have in12 : ∀ w ∈ u_ws RX12 TX12 57, w ∈ wsX12_indexOf := fun w h => (List.mem_cons_of_mem _ (List.mem_append_right _ h))
  unfold w_X12_indexOf at h
  show KW g 4 0 [(0, .q l0), (1, .i l1), (2, .i l2)] [] x
  refine k_iconst (v := 0) o hb dX12_indexOf_0 (by decide) ?_
  refine k_istore_n o hb dX12_indexOf_1 rfl rfl ?_
  refine KW.sub [1, 2, 3, 0] rfl ?_
  refine wLoop_elim (M := fun (v4 : Int32) (x3 : HS) => KW g 4 2 [(0, .q l0), (1, .i l1), (2, .i l2), (3, .i v4)] [] x3) h ?_
  intro v4 x3 again1 ih2 h
  refine k_iload_n o hb dX12_indexOf_2 rfl 3 rfl ?_
  refine k_aload_n o hb dX12_indexOf_3 rfl 0 rfl ?_
  refine k_getF (C := RX12) (T := TX12) (N := 57) o hb hts in12 hown rfl (by decide) 4 (by decide) rfl (hts (.fieldLink RX12 21 "FactKeeperModel" "columns" "[I") (by decide +kernel)) (fun _ h9 => h9) dX12_indexOf_4 h (fun v5 h => ?_)
  refine k_iload_n o hb dX12_indexOf_7 rfl 1 rfl ?_
  refine k_iald o hb dX12_indexOf_8 h (fun v6 h => ?_)
  refine k_icmp_ge (tgt := 43) o hb dX12_indexOf_9 (by decide) h (fun h => ?_) (fun h => ?_)
  · skip
    refine k_iconst (v := (-1)) o hb dX12_indexOf_43 (by decide) ?_
    exact k_iret o hb B.hr fr dX12_indexOf_44 h
  · skip
    refine k_iload_n o hb dX12_indexOf_12 rfl 2 rfl ?_
    refine k_iload_n o hb dX12_indexOf_13 rfl 3 rfl ?_
    refine k_ishr o hb dX12_indexOf_14 ?_
    refine k_iconst (v := 1) o hb dX12_indexOf_15 (by decide) ?_
    refine k_iand o hb dX12_indexOf_16 ?_
    refine k_iconst (v := 1) o hb dX12_indexOf_17 (by decide) ?_
    refine wJoin_elim (M := fun K => ∀  (x8 : HS), K  x8 → KW g 4 37 [(0, .q l0), (1, .i l1), (2, .i l2), (3, .i v4)] [] x8) h ?_ (fun j7 hj7 h => ?_)
    · skip
      intro  x8 h
      refine k_iinc (w := 1) o hb dX12_indexOf_37 3 rfl (by decide) rfl ?_
      refine k_goto (tgt := 2) o hb dX12_indexOf_40 (by decide) ?_
      exact KW.sub [1, 2, 3, 0] rfl (ih2 (v4 + 1) x8 h)
    · skip
      refine k_icmp_ne (tgt := 37) o hb dX12_indexOf_18 (by decide) h (fun h => ?_) (fun h => ?_)
      · skip
        refine k_aload_n o hb dX12_indexOf_21 rfl 0 rfl ?_
        refine k_getF (C := RX12) (T := TX12) (N := 57) o hb hts in12 hown rfl (by decide) 5 (by decide) rfl (hts (.fieldLink RX12 24 "FactKeeperModel" "indexes" "[I") (by decide +kernel)) (fun _ h9 => h9) dX12_indexOf_22 h (fun v9 h => ?_)
        refine k_iload_n o hb dX12_indexOf_25 rfl 1 rfl ?_
        refine k_iald o hb dX12_indexOf_26 h (fun v10 h => ?_)
        refine k_iload_n o hb dX12_indexOf_27 rfl 3 rfl ?_
        refine k_ishr o hb dX12_indexOf_28 ?_
        refine k_iconst (v := 1) o hb dX12_indexOf_29 (by decide) ?_
        refine k_iand o hb dX12_indexOf_30 ?_
        refine k_iconst (v := 1) o hb dX12_indexOf_31 (by decide) ?_
        refine k_icmp_ne (tgt := 37) o hb dX12_indexOf_32 (by decide) h (fun h => ?_) (fun h => ?_)
        · skip
          refine k_iload_n o hb dX12_indexOf_35 rfl 3 rfl ?_
          exact k_iret o hb B.hr fr dX12_indexOf_36 h
        · skip
          exact KW.sub [0, 1, 2, 3] rfl (hj7 x3 h)
      · skip
        exact KW.sub [0, 1, 2, 3] rfl (hj7 x3 h)
theorem dX12_seek_0 : decode cX12_seek 0 = .ok (.aload_n 0, 1) := by decide +kernel
theorem dX12_seek_1 : decode cX12_seek 1 = .ok (.iload_n 1, 1) := by decide +kernel
theorem dX12_seek_2 : decode cX12_seek 2 = .ok (.iload_n 3, 1) := by decide +kernel
theorem dX12_seek_3 : decode cX12_seek 3 = .ok (.invokevirtual 164, 3) := by decide +kernel
theorem dX12_seek_6 : decode cX12_seek 6 = .ok (.istore 7, 2) := by decide +kernel
theorem dX12_seek_8 : decode cX12_seek 8 = .ok (.iload_n 2, 1) := by decide +kernel
theorem dX12_seek_9 : decode cX12_seek 9 = .ok (.istore 8, 2) := by decide +kernel
theorem dX12_seek_11 : decode cX12_seek 11 = .ok (.iload 8, 2) := by decide +kernel
theorem dX12_seek_13 : decode cX12_seek 13 = .ok (.ifCond .lt 102, 3) := by decide +kernel
theorem dX12_seek_16 : decode cX12_seek 16 = .ok (.iload 7, 2) := by decide +kernel
theorem dX12_seek_18 : decode cX12_seek 18 = .ok (.ifCond .lt 29, 3) := by decide +kernel
theorem dX12_seek_21 : decode cX12_seek 21 = .ok (.aload_n 0, 1) := by decide +kernel
theorem dX12_seek_22 : decode cX12_seek 22 = .ok (.getfield 46, 3) := by decide +kernel
theorem dX12_seek_25 : decode cX12_seek 25 = .ok (.iconst 4, 1) := by decide +kernel
theorem dX12_seek_26 : decode cX12_seek 26 = .ok (.iload 8, 2) := by decide +kernel
theorem dX12_seek_28 : decode cX12_seek 28 = .ok (.imul, 1) := by decide +kernel
theorem dX12_seek_29 : decode cX12_seek 29 = .ok (.iload 7, 2) := by decide +kernel
theorem dX12_seek_31 : decode cX12_seek 31 = .ok (.iadd, 1) := by decide +kernel
theorem dX12_seek_32 : decode cX12_seek 32 = .ok (.iaload, 1) := by decide +kernel
theorem dX12_seek_33 : decode cX12_seek 33 = .ok (.aload 5, 2) := by decide +kernel
theorem dX12_seek_35 : decode cX12_seek 35 = .ok (.iload 6, 2) := by decide +kernel
theorem dX12_seek_37 : decode cX12_seek 37 = .ok (.iload 7, 2) := by decide +kernel
theorem dX12_seek_39 : decode cX12_seek 39 = .ok (.iadd, 1) := by decide +kernel
theorem dX12_seek_40 : decode cX12_seek 40 = .ok (.iaload, 1) := by decide +kernel
theorem dX12_seek_41 : decode cX12_seek 41 = .ok (.if_icmp .eq 6, 3) := by decide +kernel
theorem dX12_seek_44 : decode cX12_seek 44 = .ok (.goto 59, 3) := by decide +kernel
theorem dX12_seek_47 : decode cX12_seek 47 = .ok (.aload_n 0, 1) := by decide +kernel
theorem dX12_seek_48 : decode cX12_seek 48 = .ok (.dup, 1) := by decide +kernel
theorem dX12_seek_49 : decode cX12_seek 49 = .ok (.getfield 168, 3) := by decide +kernel
theorem dX12_seek_52 : decode cX12_seek 52 = .ok (.iconst 1, 1) := by decide +kernel
theorem dX12_seek_53 : decode cX12_seek 53 = .ok (.iadd, 1) := by decide +kernel
theorem dX12_seek_54 : decode cX12_seek 54 = .ok (.putfield 168, 3) := by decide +kernel
theorem dX12_seek_57 : decode cX12_seek 57 = .ok (.aload_n 0, 1) := by decide +kernel
theorem dX12_seek_58 : decode cX12_seek 58 = .ok (.iload 8, 2) := by decide +kernel
theorem dX12_seek_60 : decode cX12_seek 60 = .ok (.iload 4, 2) := by decide +kernel
theorem dX12_seek_62 : decode cX12_seek 62 = .ok (.invokevirtual 156, 3) := by decide +kernel
theorem dX12_seek_65 : decode cX12_seek 65 = .ok (.ifCond .eq 20, 3) := by decide +kernel
theorem dX12_seek_68 : decode cX12_seek 68 = .ok (.aload_n 0, 1) := by decide +kernel
theorem dX12_seek_69 : decode cX12_seek 69 = .ok (.iload 8, 2) := by decide +kernel
theorem dX12_seek_71 : decode cX12_seek 71 = .ok (.iload_n 3, 1) := by decide +kernel
theorem dX12_seek_72 : decode cX12_seek 72 = .ok (.aload 5, 2) := by decide +kernel
theorem dX12_seek_74 : decode cX12_seek 74 = .ok (.iload 6, 2) := by decide +kernel
theorem dX12_seek_76 : decode cX12_seek 76 = .ok (.invokevirtual 171, 3) := by decide +kernel
theorem dX12_seek_79 : decode cX12_seek 79 = .ok (.ifCond .eq 6, 3) := by decide +kernel
theorem dX12_seek_82 : decode cX12_seek 82 = .ok (.iload 8, 2) := by decide +kernel
theorem dX12_seek_84 : decode cX12_seek 84 = .ok (.ireturn, 1) := by decide +kernel
theorem dX12_seek_85 : decode cX12_seek 85 = .ok (.aload_n 0, 1) := by decide +kernel
theorem dX12_seek_86 : decode cX12_seek 86 = .ok (.getfield 168, 3) := by decide +kernel
theorem dX12_seek_89 : decode cX12_seek 89 = .ok (.ldc 175, 2) := by decide +kernel
theorem dX12_seek_91 : decode cX12_seek 91 = .ok (.if_icmp .le 12, 3) := by decide +kernel
theorem dX12_seek_94 : decode cX12_seek 94 = .ok (.aload_n 0, 1) := by decide +kernel
theorem dX12_seek_95 : decode cX12_seek 95 = .ok (.getfield 176, 3) := by decide +kernel
theorem dX12_seek_98 : decode cX12_seek 98 = .ok (.ifCond .eq 5, 3) := by decide +kernel
theorem dX12_seek_101 : decode cX12_seek 101 = .ok (.iconst (-1), 1) := by decide +kernel
theorem dX12_seek_102 : decode cX12_seek 102 = .ok (.ireturn, 1) := by decide +kernel
theorem dX12_seek_103 : decode cX12_seek 103 = .ok (.aload_n 0, 1) := by decide +kernel
theorem dX12_seek_104 : decode cX12_seek 104 = .ok (.getfield 61, 3) := by decide +kernel
theorem dX12_seek_107 : decode cX12_seek 107 = .ok (.iload 8, 2) := by decide +kernel
theorem dX12_seek_109 : decode cX12_seek 109 = .ok (.iaload, 1) := by decide +kernel
theorem dX12_seek_110 : decode cX12_seek 110 = .ok (.istore 8, 2) := by decide +kernel
theorem dX12_seek_112 : decode cX12_seek 112 = .ok (.goto (-101), 3) := by decide +kernel
theorem dX12_seek_115 : decode cX12_seek 115 = .ok (.iconst (-1), 1) := by decide +kernel
theorem dX12_seek_116 : decode cX12_seek 116 = .ok (.ireturn, 1) := by decide +kernel
theorem i9wsX12_seek_0 : ∀ w ∈ ([.fieldLink RX12 46 "FactKeeperModel" "column" "[I", .fieldLink RX12 168 "FactKeeperModel" "looked" "I", .constant RX12 175 (50000), .fieldLink RX12 176 "FactKeeperModel" "asks" "Z", .fieldLink RX12 61 "FactKeeperModel" "behind" "[I", .methodLink RX12 164 yX12_indexOf, .instanceMethod yX12_indexOf, .selects RX12 yX12_indexOf yX12_indexOf, .initialized RX12, .code yX12_indexOf cX12_indexOf 4 (some .int), .fieldLink RX12 21 "FactKeeperModel" "columns" "[I", .fieldLink RX12 24 "FactKeeperModel" "indexes" "[I", .methodLink RX12 156 yX12_isThere, .instanceMethod yX12_isThere, .selects RX12 yX12_isThere yX12_isThere, .code yX12_isThere cX12_isThere 3 (some .boolean), .fieldLink RX12 52 "FactKeeperModel" "born" "[I", .fieldLink RX12 55 "FactKeeperModel" "died" "[I", .methodLink RX12 171 yX12_fits, .instanceMethod yX12_fits, .selects RX12 yX12_fits yX12_fits, .code yX12_fits cX12_fits 7 (some .boolean), .fieldLink RX12 43 "FactKeeperModel" "table" "[I"] : List Cond), w ∈ wsX12_seek := fun _ h => (List.mem_cons_of_mem _ (List.mem_append_left _ h))
theorem i9wsX12_seek_1 : ∀ w ∈ wsX120, w ∈ wsX12_seek := fun _ h => (List.mem_cons_of_mem _ (List.mem_append_right _ h))
set_option maxRecDepth 20000 in
theorem ggX12_seek_X12_indexOf : GoodIn wsX12_seek wsX12_indexOf := (gin_c (mem_at i9wsX12_seek_0 9 rfl) rfl (goodIn_app (gin_c (mem_at i9wsX12_seek_0 10 rfl) rfl (gin_c (mem_at i9wsX12_seek_0 11 rfl) rfl gin_n)) (goodIn_sub i9wsX12_seek_1 g9_16)))
set_option maxRecDepth 20000 in
theorem gX12_seek_X12_indexOf : GoodIn wsX12_seek (wsV RX12 164 RX12 yX12_indexOf wsX12_indexOf) := goodIn_app (gin_c (mem_at i9wsX12_seek_0 5 rfl) rfl (gin_c (mem_at i9wsX12_seek_0 6 rfl) rfl (gin_c (mem_at i9wsX12_seek_0 7 rfl) rfl (gin_c (mem_at i9wsX12_seek_0 8 rfl) rfl gin_n)))) ggX12_seek_X12_indexOf
set_option maxRecDepth 20000 in
theorem ggX12_seek_X12_isThere : GoodIn wsX12_seek wsX12_isThere := (gin_c (mem_at i9wsX12_seek_0 15 rfl) rfl (goodIn_app (gin_c (mem_at i9wsX12_seek_0 16 rfl) rfl (gin_c (mem_at i9wsX12_seek_0 17 rfl) rfl gin_n)) (goodIn_sub i9wsX12_seek_1 g9_16)))
set_option maxRecDepth 20000 in
theorem gX12_seek_X12_isThere : GoodIn wsX12_seek (wsV RX12 156 RX12 yX12_isThere wsX12_isThere) := goodIn_app (gin_c (mem_at i9wsX12_seek_0 12 rfl) rfl (gin_c (mem_at i9wsX12_seek_0 13 rfl) rfl (gin_c (mem_at i9wsX12_seek_0 14 rfl) rfl (gin_c (mem_at i9wsX12_seek_0 8 rfl) rfl gin_n)))) ggX12_seek_X12_isThere
set_option maxRecDepth 20000 in
theorem ggX12_seek_X12_fits : GoodIn wsX12_seek wsX12_fits := (gin_c (mem_at i9wsX12_seek_0 21 rfl) rfl (goodIn_app (gin_c (mem_at i9wsX12_seek_0 10 rfl) rfl (gin_c (mem_at i9wsX12_seek_0 22 rfl) rfl (gin_c (mem_at i9wsX12_seek_0 0 rfl) rfl gin_n))) (goodIn_sub i9wsX12_seek_1 g9_16)))
set_option maxRecDepth 20000 in
theorem gX12_seek_X12_fits : GoodIn wsX12_seek (wsV RX12 171 RX12 yX12_fits wsX12_fits) := goodIn_app (gin_c (mem_at i9wsX12_seek_0 18 rfl) rfl (gin_c (mem_at i9wsX12_seek_0 19 rfl) rfl (gin_c (mem_at i9wsX12_seek_0 20 rfl) rfl (gin_c (mem_at i9wsX12_seek_0 8 rfl) rfl gin_n)))) ggX12_seek_X12_fits
set_option maxHeartbeats 4000000 in
set_option maxRecDepth 100000 in
theorem T_X12_seek (l : Launch) (hl : l.stackTraces = false) (D : va_G) (cA : Nat → ClassId) {l0 : Option Nat} {l1 : Int32} {l2 : Int32} {l3 : Int32} {l4 : Int32} {l5 : Option Nat} {l6 : Int32} {x : HS} {Q : Int32 → HS → Prop} {X : String → HS → Prop} (h : w_X12_seek l0 l1 l2 l3 l4 l5 l6 x Q X) : YI l yX12_seek wsX12_seek 1 26 D cA [.q l0, .i l1, .i l2, .i l3, .i l4, .q l5, .i l6] x Q X := by
  refine YI.of (cc := cX12_seek) (maxL := 9) (ret := (some .int)) hl (by decide) rfl rfl (fun g B fr => ?_)
  have o := B.o
  have hb := B.hb
  have hts := B.hts
  have hown : g.s.vm.findClass RX12 = some g.m.cls := B.hown
  have in12 : ∀ w ∈ u_ws RX12 TX12 57, w ∈ wsX12_seek := fun w h => (List.mem_cons_of_mem _ (List.mem_append_right _ h))
  unfold w_X12_seek at h
  show KW g 9 0 [(0, .q l0), (1, .i l1), (2, .i l2), (3, .i l3), (4, .i l4), (5, .q l5), (6, .i l6)] [] x
  refine k_aload_n o hb dX12_seek_0 rfl 0 rfl ?_
  refine k_iload_n o hb dX12_seek_1 rfl 1 rfl ?_
  refine k_iload_n o hb dX12_seek_2 rfl 3 rfl ?_
  refine k_run_i o (fun _ _ q => q) (k_runV (ci := 12) (rc := (RX12, TX12, 57)) o hb B.hml hown hts rfl (by decide) (T_X12_indexOf g.l o.hl g.D g.cA h.2) (cwV 2 hts gX12_seek_X12_indexOf rfl rfl rfl (by decide +kernel) ⟨yle B.hR1 rfl, yle B.hR2 rfl⟩) h.1 rfl rfl (Nat.le_of_ble_eq_true rfl) dX12_seek_3) (fun v2 x1 h => ?_)
  refine k_istore o hb dX12_seek_6 rfl ?_
  refine k_iload_n o hb dX12_seek_8 rfl 3 rfl ?_
  refine k_istore o hb dX12_seek_9 rfl ?_
  refine KW.sub [2, 5, 6, 7, 8, 1, 0] rfl ?_
  refine wLoop_elim (M := fun (v6 : Int32) (x5 : HS) => KW g 9 11 [(0, .q l0), (3, .i l3), (4, .i l4), (5, .q l5), (6, .i l6), (7, .i v2), (8, .i v6)] [] x5) h ?_
  intro v6 x5 again3 ih4 h
  refine k_iload o hb dX12_seek_11 6 rfl ?_
  refine k_if_lt (tgt := 115) o hb dX12_seek_13 (by decide) h (fun h => ?_) (fun h => ?_)
  · skip
    refine k_iconst (v := (-1)) o hb dX12_seek_115 (by decide) ?_
    exact k_iret o hb B.hr fr dX12_seek_116 h
  · skip
    refine k_iload o hb dX12_seek_16 5 rfl ?_
    refine wJoin_elim (M := fun K => ∀  (x8 : HS), K  x8 → KW g 9 103 [(0, .q l0), (3, .i l3), (4, .i l4), (5, .q l5), (6, .i l6), (7, .i v2), (8, .i v6)] [] x8) h ?_ (fun j7 hj7 h => ?_)
    · skip
      intro  x8 h
      refine k_aload_n o hb dX12_seek_103 rfl 0 rfl ?_
      refine k_getF (C := RX12) (T := TX12) (N := 57) o hb hts in12 hown rfl (by decide) 18 (by decide) rfl (hts (.fieldLink RX12 61 "FactKeeperModel" "behind" "[I") (by decide +kernel)) (fun _ h9 => h9) dX12_seek_104 h (fun v9 h => ?_)
      refine k_iload o hb dX12_seek_107 6 rfl ?_
      refine k_iald o hb dX12_seek_109 h (fun v10 h => ?_)
      refine k_istore o hb dX12_seek_110 rfl ?_
      refine k_goto (tgt := 11) o hb dX12_seek_112 (by decide) ?_
      exact KW.sub [1, 2, 3, 4, 5, 6, 0] rfl (ih4 v10 x8 h)
    · skip
      refine wJoin_elim (M := fun K => ∀  (x12 : HS), K  x12 → KW g 9 47 [(0, .q l0), (3, .i l3), (4, .i l4), (5, .q l5), (6, .i l6), (7, .i v2), (8, .i v6)] [] x12) h ?_ (fun j11 hj11 h => ?_)
      · skip
        intro  x12 h
        refine k_aload_n o hb dX12_seek_47 rfl 0 rfl ?_
        refine k_dup o hb dX12_seek_48 ?_
        refine k_getI (C := RX12) (T := TX12) (N := 57) o hb hts in12 hown rfl (by decide) 38 (by decide) rfl (hts (.fieldLink RX12 168 "FactKeeperModel" "looked" "I") (by decide +kernel)) (fun _ h9 => h9) dX12_seek_49 h (fun v13 h => ?_)
        refine k_iconst (v := 1) o hb dX12_seek_52 (by decide) ?_
        refine k_iadd o hb dX12_seek_53 ?_
        refine k_putI (C := RX12) (T := TX12) (N := 57) (ty := .int) o hb hts in12 tyX12 tyX12_ok nmX12 hown rfl (by decide) 38 (by decide) rfl (hts (.fieldLink RX12 168 "FactKeeperModel" "looked" "I") (by decide +kernel)) (fun _ h9 => h9) rfl (by decide +kernel) (fun _ => rfl) (fun _ => rfl) dX12_seek_54 h (fun x14 h => ?_)
        refine k_aload_n o hb dX12_seek_57 rfl 0 rfl ?_
        refine k_iload o hb dX12_seek_58 6 rfl ?_
        refine k_iload o hb dX12_seek_60 2 rfl ?_
        refine k_run_i o (fun _ _ q => q) (k_runV (ci := 12) (rc := (RX12, TX12, 57)) o hb B.hml hown hts rfl (by decide) (T_X12_isThere g.l o.hl g.D g.cA h.2) (cwV 2 hts gX12_seek_X12_isThere rfl rfl rfl (by decide +kernel) ⟨yle B.hR1 rfl, yle B.hR2 rfl⟩) h.1 rfl rfl (Nat.le_of_ble_eq_true rfl) dX12_seek_62) (fun v16 x15 h => ?_)
        refine wJoin_elim (M := fun K => ∀  (x18 : HS), K  x18 → KW g 9 85 [(0, .q l0), (3, .i l3), (4, .i l4), (5, .q l5), (6, .i l6), (7, .i v2), (8, .i v6)] [] x18) h ?_ (fun j17 hj17 h => ?_)
        · skip
          intro  x18 h
          refine k_aload_n o hb dX12_seek_85 rfl 0 rfl ?_
          refine k_getI (C := RX12) (T := TX12) (N := 57) o hb hts in12 hown rfl (by decide) 38 (by decide) rfl (hts (.fieldLink RX12 168 "FactKeeperModel" "looked" "I") (by decide +kernel)) (fun _ h9 => h9) dX12_seek_86 h (fun v19 h => ?_)
          refine k_ldc (v := 50000) o hb hown (hts (.constant RX12 175 50000) (by decide +kernel)) dX12_seek_89 ?_
          refine k_icmp_le (tgt := 103) o hb dX12_seek_91 (by decide) h (fun h => ?_) (fun h => ?_)
          · skip
            exact KW.sub [0, 1, 2, 3, 4, 5, 6] rfl (hj7 x18 h)
          · skip
            refine k_aload_n o hb dX12_seek_94 rfl 0 rfl ?_
            refine k_getI (C := RX12) (T := TX12) (N := 57) o hb hts in12 hown rfl (by decide) 39 (by decide) rfl (hts (.fieldLink RX12 176 "FactKeeperModel" "asks" "Z") (by decide +kernel)) (fun _ h9 => h9) dX12_seek_95 h (fun v20 h => ?_)
            refine k_if_eq (tgt := 103) o hb dX12_seek_98 (by decide) h (fun h => ?_) (fun h => ?_)
            · skip
              exact KW.sub [0, 1, 2, 3, 4, 5, 6] rfl (hj7 x18 h)
            · skip
              refine k_iconst (v := (-1)) o hb dX12_seek_101 (by decide) ?_
              exact k_iret o hb B.hr fr dX12_seek_102 h
        · skip
          refine k_if_eq (tgt := 85) o hb dX12_seek_65 (by decide) h (fun h => ?_) (fun h => ?_)
          · skip
            exact KW.sub [0, 1, 2, 3, 4, 5, 6] rfl (hj17 x15 h)
          · skip
            refine k_aload_n o hb dX12_seek_68 rfl 0 rfl ?_
            refine k_iload o hb dX12_seek_69 6 rfl ?_
            refine k_iload_n o hb dX12_seek_71 rfl 1 rfl ?_
            refine k_aload o hb dX12_seek_72 3 rfl ?_
            refine k_iload o hb dX12_seek_74 4 rfl ?_
            refine k_run_i o (fun _ _ q => q) (k_runV (ci := 12) (rc := (RX12, TX12, 57)) o hb B.hml hown hts rfl (by decide) (T_X12_fits g.l o.hl g.D g.cA h.2) (cwV 4 hts gX12_seek_X12_fits rfl rfl rfl (by decide +kernel) ⟨yle B.hR1 rfl, yle B.hR2 rfl⟩) h.1 rfl rfl (Nat.le_of_ble_eq_true rfl) dX12_seek_76) (fun v22 x21 h => ?_)
            refine k_if_eq (tgt := 85) o hb dX12_seek_79 (by decide) h (fun h => ?_) (fun h => ?_)
            · skip
              exact KW.sub [0, 1, 2, 3, 4, 5, 6] rfl (hj17 x21 h)
            · skip
              refine k_iload o hb dX12_seek_82 6 rfl ?_
              exact k_iret o hb B.hr fr dX12_seek_84 h
      · skip
        refine k_if_lt (tgt := 47) o hb dX12_seek_18 (by decide) h (fun h => ?_) (fun h => ?_)
        · skip
          exact KW.sub [0, 1, 2, 3, 4, 5, 6] rfl (hj11 x5 h)
        · skip
          refine k_aload_n o hb dX12_seek_21 rfl 0 rfl ?_
          refine k_getF (C := RX12) (T := TX12) (N := 57) o hb hts in12 hown rfl (by decide) 13 (by decide) rfl (hts (.fieldLink RX12 46 "FactKeeperModel" "column" "[I") (by decide +kernel)) (fun _ h9 => h9) dX12_seek_22 h (fun v23 h => ?_)
          refine k_iconst (v := 4) o hb dX12_seek_25 (by decide) ?_
          refine k_iload o hb dX12_seek_26 6 rfl ?_
          refine k_imul o hb dX12_seek_28 ?_
          refine k_iload o hb dX12_seek_29 5 rfl ?_
          refine k_iadd o hb dX12_seek_31 ?_
          refine k_iald o hb dX12_seek_32 h (fun v24 h => ?_)
          refine k_aload o hb dX12_seek_33 3 rfl ?_
          refine k_iload o hb dX12_seek_35 4 rfl ?_
          refine k_iload o hb dX12_seek_37 5 rfl ?_
          refine k_iadd o hb dX12_seek_39 ?_
          refine k_iald o hb dX12_seek_40 h (fun v25 h => ?_)
          refine k_icmp_eq (tgt := 47) o hb dX12_seek_41 (by decide) h (fun h => ?_) (fun h => ?_)
          · skip
            exact KW.sub [0, 1, 2, 3, 4, 5, 6] rfl (hj11 x5 h)
          · skip
            refine k_goto (tgt := 103) o hb dX12_seek_44 (by decide) ?_
            exact KW.sub [0, 1, 2, 3, 4, 5, 6] rfl (hj7 x5 h)
theorem dX12_free_0 : decode cX12_free 0 = .ok (.iconst 0, 1) := by decide +kernel
theorem dX12_free_1 : decode cX12_free 1 = .ok (.istore_n 1, 1) := by decide +kernel
theorem dX12_free_2 : decode cX12_free 2 = .ok (.aload_n 0, 1) := by decide +kernel
theorem dX12_free_3 : decode cX12_free 3 = .ok (.getfield 39, 3) := by decide +kernel
theorem dX12_free_6 : decode cX12_free 6 = .ok (.iload_n 1, 1) := by decide +kernel
theorem dX12_free_7 : decode cX12_free 7 = .ok (.baload, 1) := by decide +kernel
theorem dX12_free_8 : decode cX12_free 8 = .ok (.ifCond .eq 9, 3) := by decide +kernel
theorem dX12_free_11 : decode cX12_free 11 = .ok (.iinc 1 1, 3) := by decide +kernel
theorem dX12_free_14 : decode cX12_free 14 = .ok (.goto (-12), 3) := by decide +kernel
theorem dX12_free_17 : decode cX12_free 17 = .ok (.iload_n 1, 1) := by decide +kernel
theorem dX12_free_18 : decode cX12_free 18 = .ok (.ireturn, 1) := by decide +kernel
set_option maxHeartbeats 4000000 in
set_option maxRecDepth 100000 in
theorem T_X12_free (l : Launch) (hl : l.stackTraces = false) (D : va_G) (cA : Nat → ClassId) {l0 : Option Nat} {x : HS} {Q : Int32 → HS → Prop} {X : String → HS → Prop} (h : w_X12_free l0 x Q X) : YI l yX12_free wsX12_free 0 0 D cA [.q l0] x Q X := by
  refine YI.of (cc := cX12_free) (maxL := 2) (ret := (some .int)) hl (by decide) rfl rfl (fun g B fr => ?_)
  have o := B.o
  have hb := B.hb
  have hts := B.hts
  have hown : g.s.vm.findClass RX12 = some g.m.cls := B.hown
  have in12 : ∀ w ∈ u_ws RX12 TX12 57, w ∈ wsX12_free := fun w h => (List.mem_cons_of_mem _ (List.mem_append_right _ h))
  unfold w_X12_free at h
  show KW g 2 0 [(0, .q l0)] [] x
  refine k_iconst (v := 0) o hb dX12_free_0 (by decide) ?_
  refine k_istore_n o hb dX12_free_1 rfl rfl ?_
  refine KW.sub [1, 0] rfl ?_
  refine wLoop_elim (M := fun (v4 : Int32) (x3 : HS) => KW g 2 2 [(0, .q l0), (1, .i v4)] [] x3) h ?_
  intro v4 x3 again1 ih2 h
  refine k_aload_n o hb dX12_free_2 rfl 0 rfl ?_
  refine k_getF (C := RX12) (T := TX12) (N := 57) o hb hts in12 hown rfl (by decide) 11 (by decide) rfl (hts (.fieldLink RX12 39 "FactKeeperModel" "used" "[Z") (by decide +kernel)) (fun _ h9 => h9) dX12_free_3 h (fun v5 h => ?_)
  refine k_iload_n o hb dX12_free_6 rfl 1 rfl ?_
  refine k_zald o hb dX12_free_7 h (fun v6 h => ?_)
  refine k_if_eq (tgt := 17) o hb dX12_free_8 (by decide) h (fun h => ?_) (fun h => ?_)
  · skip
    refine k_iload_n o hb dX12_free_17 rfl 1 rfl ?_
    exact k_iret o hb B.hr fr dX12_free_18 h
  · skip
    refine k_iinc (w := 1) o hb dX12_free_11 1 rfl (by decide) rfl ?_
    refine k_goto (tgt := 2) o hb dX12_free_14 (by decide) ?_
    exact KW.sub [1, 0] rfl (ih2 (v4 + 1) x3 h)
theorem dX12_note_0 : decode cX12_note 0 = .ok (.aload_n 0, 1) := by decide +kernel
theorem dX12_note_1 : decode cX12_note 1 = .ok (.getfield 193, 3) := by decide +kernel
theorem dX12_note_4 : decode cX12_note 4 = .ok (.ifCond .ne 4, 3) := by decide +kernel
theorem dX12_note_7 : decode cX12_note 7 = .ok (.return_, 1) := by decide +kernel
theorem dX12_note_8 : decode cX12_note 8 = .ok (.aload_n 0, 1) := by decide +kernel
theorem dX12_note_9 : decode cX12_note 9 = .ok (.getfield 67, 3) := by decide +kernel
theorem dX12_note_12 : decode cX12_note 12 = .ok (.aload_n 0, 1) := by decide +kernel
theorem dX12_note_13 : decode cX12_note 13 = .ok (.getfield 196, 3) := by decide +kernel
theorem dX12_note_16 : decode cX12_note 16 = .ok (.iload_n 1, 1) := by decide +kernel
theorem dX12_note_17 : decode cX12_note 17 = .ok (.iastore, 1) := by decide +kernel
theorem dX12_note_18 : decode cX12_note 18 = .ok (.aload_n 0, 1) := by decide +kernel
theorem dX12_note_19 : decode cX12_note 19 = .ok (.dup, 1) := by decide +kernel
theorem dX12_note_20 : decode cX12_note 20 = .ok (.getfield 196, 3) := by decide +kernel
theorem dX12_note_23 : decode cX12_note 23 = .ok (.iconst 1, 1) := by decide +kernel
theorem dX12_note_24 : decode cX12_note 24 = .ok (.iadd, 1) := by decide +kernel
theorem dX12_note_25 : decode cX12_note 25 = .ok (.putfield 196, 3) := by decide +kernel
theorem dX12_note_28 : decode cX12_note 28 = .ok (.return_, 1) := by decide +kernel
set_option maxHeartbeats 4000000 in
set_option maxRecDepth 100000 in
theorem T_X12_note (l : Launch) (hl : l.stackTraces = false) (D : va_G) (cA : Nat → ClassId) {l0 : Option Nat} {l1 : Int32} {x : HS} {Q : HS → Prop} {X : String → HS → Prop} (h : w_X12_note l0 l1 x Q X) : YV l yX12_note wsX12_note 0 0 D cA [.q l0, .i l1] x Q X := by
  refine YV.of (cc := cX12_note) (maxL := 2) (ret := none) hl (by decide) rfl rfl (fun g B fr => ?_)
  have o := B.o
  have hb := B.hb
  have hts := B.hts
  have hown : g.s.vm.findClass RX12 = some g.m.cls := B.hown
  have in12 : ∀ w ∈ u_ws RX12 TX12 57, w ∈ wsX12_note := fun w h => (List.mem_cons_of_mem _ (List.mem_append_right _ h))
  unfold w_X12_note at h
  show KW g 2 0 [(0, .q l0), (1, .i l1)] [] x
  refine k_aload_n o hb dX12_note_0 rfl 0 rfl ?_
  refine k_getI (C := RX12) (T := TX12) (N := 57) o hb hts in12 hown rfl (by decide) 27 (by decide) rfl (hts (.fieldLink RX12 193 "FactKeeperModel" "marks" "I") (by decide +kernel)) (fun _ h9 => h9) dX12_note_1 h (fun v1 h => ?_)
  refine k_if_ne (tgt := 8) o hb dX12_note_4 (by decide) h (fun h => ?_) (fun h => ?_)
  · skip
    exact k_vret o hb B.hr fr dX12_note_7 h
  · skip
    refine k_aload_n o hb dX12_note_8 rfl 0 rfl ?_
    refine k_getF (C := RX12) (T := TX12) (N := 57) o hb hts in12 hown rfl (by decide) 24 (by decide) rfl (hts (.fieldLink RX12 67 "FactKeeperModel" "change" "[I") (by decide +kernel)) (fun _ h9 => h9) dX12_note_9 h (fun v2 h => ?_)
    refine k_aload_n o hb dX12_note_12 rfl 0 rfl ?_
    refine k_getI (C := RX12) (T := TX12) (N := 57) o hb hts in12 hown rfl (by decide) 25 (by decide) rfl (hts (.fieldLink RX12 196 "FactKeeperModel" "changes" "I") (by decide +kernel)) (fun _ h9 => h9) dX12_note_13 h (fun v3 h => ?_)
    refine k_iload_n o hb dX12_note_16 rfl 1 rfl ?_
    refine k_iast o hb dX12_note_17 h (fun x4 h => ?_)
    refine k_aload_n o hb dX12_note_18 rfl 0 rfl ?_
    refine k_dup o hb dX12_note_19 ?_
    refine k_getI (C := RX12) (T := TX12) (N := 57) o hb hts in12 hown rfl (by decide) 25 (by decide) rfl (hts (.fieldLink RX12 196 "FactKeeperModel" "changes" "I") (by decide +kernel)) (fun _ h9 => h9) dX12_note_20 h (fun v5 h => ?_)
    refine k_iconst (v := 1) o hb dX12_note_23 (by decide) ?_
    refine k_iadd o hb dX12_note_24 ?_
    refine k_putI (C := RX12) (T := TX12) (N := 57) (ty := .int) o hb hts in12 tyX12 tyX12_ok nmX12 hown rfl (by decide) 25 (by decide) rfl (hts (.fieldLink RX12 196 "FactKeeperModel" "changes" "I") (by decide +kernel)) (fun _ h9 => h9) rfl (by decide +kernel) (fun _ => rfl) (fun _ => rfl) dX12_note_25 h (fun x6 h => ?_)
    exact k_vret o hb B.hr fr dX12_note_28 h
theorem dX12_fresh_0 : decode cX12_fresh 0 = .ok (.aload_n 0, 1) := by decide +kernel
theorem dX12_fresh_1 : decode cX12_fresh 1 = .ok (.invokevirtual 180, 3) := by decide +kernel
theorem dX12_fresh_4 : decode cX12_fresh 4 = .ok (.istore_n 2, 1) := by decide +kernel
theorem dX12_fresh_5 : decode cX12_fresh 5 = .ok (.aload_n 0, 1) := by decide +kernel
theorem dX12_fresh_6 : decode cX12_fresh 6 = .ok (.getfield 39, 3) := by decide +kernel
theorem dX12_fresh_9 : decode cX12_fresh 9 = .ok (.iload_n 2, 1) := by decide +kernel
theorem dX12_fresh_10 : decode cX12_fresh 10 = .ok (.iconst 1, 1) := by decide +kernel
theorem dX12_fresh_11 : decode cX12_fresh 11 = .ok (.bastore, 1) := by decide +kernel
theorem dX12_fresh_12 : decode cX12_fresh 12 = .ok (.aload_n 0, 1) := by decide +kernel
theorem dX12_fresh_13 : decode cX12_fresh 13 = .ok (.getfield 43, 3) := by decide +kernel
theorem dX12_fresh_16 : decode cX12_fresh 16 = .ok (.iload_n 2, 1) := by decide +kernel
theorem dX12_fresh_17 : decode cX12_fresh 17 = .ok (.iload_n 1, 1) := by decide +kernel
theorem dX12_fresh_18 : decode cX12_fresh 18 = .ok (.iastore, 1) := by decide +kernel
theorem dX12_fresh_19 : decode cX12_fresh 19 = .ok (.aload_n 0, 1) := by decide +kernel
theorem dX12_fresh_20 : decode cX12_fresh 20 = .ok (.getfield 49, 3) := by decide +kernel
theorem dX12_fresh_23 : decode cX12_fresh 23 = .ok (.iload_n 2, 1) := by decide +kernel
theorem dX12_fresh_24 : decode cX12_fresh 24 = .ok (.aload_n 0, 1) := by decide +kernel
theorem dX12_fresh_25 : decode cX12_fresh 25 = .ok (.getfield 184, 3) := by decide +kernel
theorem dX12_fresh_28 : decode cX12_fresh 28 = .ok (.iastore, 1) := by decide +kernel
theorem dX12_fresh_29 : decode cX12_fresh 29 = .ok (.aload_n 0, 1) := by decide +kernel
theorem dX12_fresh_30 : decode cX12_fresh 30 = .ok (.dup, 1) := by decide +kernel
theorem dX12_fresh_31 : decode cX12_fresh 31 = .ok (.getfield 184, 3) := by decide +kernel
theorem dX12_fresh_34 : decode cX12_fresh 34 = .ok (.iconst 1, 1) := by decide +kernel
theorem dX12_fresh_35 : decode cX12_fresh 35 = .ok (.iadd, 1) := by decide +kernel
theorem dX12_fresh_36 : decode cX12_fresh 36 = .ok (.putfield 184, 3) := by decide +kernel
theorem dX12_fresh_39 : decode cX12_fresh 39 = .ok (.aload_n 0, 1) := by decide +kernel
theorem dX12_fresh_40 : decode cX12_fresh 40 = .ok (.dup, 1) := by decide +kernel
theorem dX12_fresh_41 : decode cX12_fresh 41 = .ok (.getfield 187, 3) := by decide +kernel
theorem dX12_fresh_44 : decode cX12_fresh 44 = .ok (.iconst 1, 1) := by decide +kernel
theorem dX12_fresh_45 : decode cX12_fresh 45 = .ok (.iadd, 1) := by decide +kernel
theorem dX12_fresh_46 : decode cX12_fresh 46 = .ok (.putfield 187, 3) := by decide +kernel
theorem dX12_fresh_49 : decode cX12_fresh 49 = .ok (.aload_n 0, 1) := by decide +kernel
theorem dX12_fresh_50 : decode cX12_fresh 50 = .ok (.dup, 1) := by decide +kernel
theorem dX12_fresh_51 : decode cX12_fresh 51 = .ok (.getfield 150, 3) := by decide +kernel
theorem dX12_fresh_54 : decode cX12_fresh 54 = .ok (.iconst 1, 1) := by decide +kernel
theorem dX12_fresh_55 : decode cX12_fresh 55 = .ok (.iadd, 1) := by decide +kernel
theorem dX12_fresh_56 : decode cX12_fresh 56 = .ok (.putfield 150, 3) := by decide +kernel
theorem dX12_fresh_59 : decode cX12_fresh 59 = .ok (.aload_n 0, 1) := by decide +kernel
theorem dX12_fresh_60 : decode cX12_fresh 60 = .ok (.getfield 52, 3) := by decide +kernel
theorem dX12_fresh_63 : decode cX12_fresh 63 = .ok (.iload_n 2, 1) := by decide +kernel
theorem dX12_fresh_64 : decode cX12_fresh 64 = .ok (.aload_n 0, 1) := by decide +kernel
theorem dX12_fresh_65 : decode cX12_fresh 65 = .ok (.getfield 150, 3) := by decide +kernel
theorem dX12_fresh_68 : decode cX12_fresh 68 = .ok (.iastore, 1) := by decide +kernel
theorem dX12_fresh_69 : decode cX12_fresh 69 = .ok (.aload_n 0, 1) := by decide +kernel
theorem dX12_fresh_70 : decode cX12_fresh 70 = .ok (.getfield 55, 3) := by decide +kernel
theorem dX12_fresh_73 : decode cX12_fresh 73 = .ok (.iload_n 2, 1) := by decide +kernel
theorem dX12_fresh_74 : decode cX12_fresh 74 = .ok (.iconst (-1), 1) := by decide +kernel
theorem dX12_fresh_75 : decode cX12_fresh 75 = .ok (.iastore, 1) := by decide +kernel
theorem dX12_fresh_76 : decode cX12_fresh 76 = .ok (.aload_n 0, 1) := by decide +kernel
theorem dX12_fresh_77 : decode cX12_fresh 77 = .ok (.getfield 64, 3) := by decide +kernel
theorem dX12_fresh_80 : decode cX12_fresh 80 = .ok (.iload_n 2, 1) := by decide +kernel
theorem dX12_fresh_81 : decode cX12_fresh 81 = .ok (.iload_n 2, 1) := by decide +kernel
theorem dX12_fresh_82 : decode cX12_fresh 82 = .ok (.iastore, 1) := by decide +kernel
theorem dX12_fresh_83 : decode cX12_fresh 83 = .ok (.aload_n 0, 1) := by decide +kernel
theorem dX12_fresh_84 : decode cX12_fresh 84 = .ok (.iload_n 2, 1) := by decide +kernel
theorem dX12_fresh_85 : decode cX12_fresh 85 = .ok (.invokevirtual 190, 3) := by decide +kernel
theorem dX12_fresh_88 : decode cX12_fresh 88 = .ok (.iload_n 2, 1) := by decide +kernel
theorem dX12_fresh_89 : decode cX12_fresh 89 = .ok (.ireturn, 1) := by decide +kernel
theorem i9wsX12_fresh_0 : ∀ w ∈ ([.fieldLink RX12 39 "FactKeeperModel" "used" "[Z", .fieldLink RX12 43 "FactKeeperModel" "table" "[I", .fieldLink RX12 49 "FactKeeperModel" "number" "[I", .fieldLink RX12 184 "FactKeeperModel" "numbers" "I", .fieldLink RX12 187 "FactKeeperModel" "kept" "I", .fieldLink RX12 150 "FactKeeperModel" "time" "I", .fieldLink RX12 52 "FactKeeperModel" "born" "[I", .fieldLink RX12 55 "FactKeeperModel" "died" "[I", .fieldLink RX12 64 "FactKeeperModel" "stand" "[I", .methodLink RX12 180 yX12_free, .instanceMethod yX12_free, .selects RX12 yX12_free yX12_free, .initialized RX12, .code yX12_free cX12_free 2 (some .int), .methodLink RX12 190 yX12_note, .instanceMethod yX12_note, .selects RX12 yX12_note yX12_note, .code yX12_note cX12_note 2 none, .fieldLink RX12 193 "FactKeeperModel" "marks" "I", .fieldLink RX12 67 "FactKeeperModel" "change" "[I", .fieldLink RX12 196 "FactKeeperModel" "changes" "I"] : List Cond), w ∈ wsX12_fresh := fun _ h => (List.mem_cons_of_mem _ (List.mem_append_left _ h))
theorem i9wsX12_fresh_1 : ∀ w ∈ wsX120, w ∈ wsX12_fresh := fun _ h => (List.mem_cons_of_mem _ (List.mem_append_right _ h))
set_option maxRecDepth 20000 in
theorem ggX12_fresh_X12_free : GoodIn wsX12_fresh wsX12_free := (gin_c (mem_at i9wsX12_fresh_0 13 rfl) rfl (goodIn_app (gin_c (mem_at i9wsX12_fresh_0 0 rfl) rfl gin_n) (goodIn_sub i9wsX12_fresh_1 g9_16)))
set_option maxRecDepth 20000 in
theorem gX12_fresh_X12_free : GoodIn wsX12_fresh (wsV RX12 180 RX12 yX12_free wsX12_free) := goodIn_app (gin_c (mem_at i9wsX12_fresh_0 9 rfl) rfl (gin_c (mem_at i9wsX12_fresh_0 10 rfl) rfl (gin_c (mem_at i9wsX12_fresh_0 11 rfl) rfl (gin_c (mem_at i9wsX12_fresh_0 12 rfl) rfl gin_n)))) ggX12_fresh_X12_free
set_option maxRecDepth 20000 in
theorem ggX12_fresh_X12_note : GoodIn wsX12_fresh wsX12_note := (gin_c (mem_at i9wsX12_fresh_0 17 rfl) rfl (goodIn_app (gin_c (mem_at i9wsX12_fresh_0 18 rfl) rfl (gin_c (mem_at i9wsX12_fresh_0 19 rfl) rfl (gin_c (mem_at i9wsX12_fresh_0 20 rfl) rfl gin_n))) (goodIn_sub i9wsX12_fresh_1 g9_16)))
set_option maxRecDepth 20000 in
theorem gX12_fresh_X12_note : GoodIn wsX12_fresh (wsV RX12 190 RX12 yX12_note wsX12_note) := goodIn_app (gin_c (mem_at i9wsX12_fresh_0 14 rfl) rfl (gin_c (mem_at i9wsX12_fresh_0 15 rfl) rfl (gin_c (mem_at i9wsX12_fresh_0 16 rfl) rfl (gin_c (mem_at i9wsX12_fresh_0 12 rfl) rfl gin_n)))) ggX12_fresh_X12_note
set_option maxHeartbeats 4000000 in
set_option maxRecDepth 100000 in
theorem T_X12_fresh (l : Launch) (hl : l.stackTraces = false) (D : va_G) (cA : Nat → ClassId) {l0 : Option Nat} {l1 : Int32} {x : HS} {Q : Int32 → HS → Prop} {X : String → HS → Prop} (h : w_X12_fresh l0 l1 x Q X) : YI l yX12_fresh wsX12_fresh 1 21 D cA [.q l0, .i l1] x Q X := by
  refine YI.of (cc := cX12_fresh) (maxL := 3) (ret := (some .int)) hl (by decide) rfl rfl (fun g B fr => ?_)
  have o := B.o
  have hb := B.hb
  have hts := B.hts
  have hown : g.s.vm.findClass RX12 = some g.m.cls := B.hown
  have in12 : ∀ w ∈ u_ws RX12 TX12 57, w ∈ wsX12_fresh := fun w h => (List.mem_cons_of_mem _ (List.mem_append_right _ h))
  unfold w_X12_fresh at h
  show KW g 3 0 [(0, .q l0), (1, .i l1)] [] x
  refine k_aload_n o hb dX12_fresh_0 rfl 0 rfl ?_
  refine k_run_i o (fun _ _ q => q) (k_runV (ci := 12) (rc := (RX12, TX12, 57)) o hb B.hml hown hts rfl (by decide) (T_X12_free g.l o.hl g.D g.cA h.2) (cwV 0 hts gX12_fresh_X12_free rfl rfl rfl (by decide +kernel) ⟨yle B.hR1 rfl, yle B.hR2 rfl⟩) h.1 rfl rfl (Nat.le_of_ble_eq_true rfl) dX12_fresh_1) (fun v2 x1 h => ?_)
  refine k_istore_n o hb dX12_fresh_4 rfl rfl ?_
  refine k_aload_n o hb dX12_fresh_5 rfl 1 rfl ?_
  refine k_getF (C := RX12) (T := TX12) (N := 57) o hb hts in12 hown rfl (by decide) 11 (by decide) rfl (hts (.fieldLink RX12 39 "FactKeeperModel" "used" "[Z") (by decide +kernel)) (fun _ h9 => h9) dX12_fresh_6 h (fun v3 h => ?_)
  refine k_iload_n o hb dX12_fresh_9 rfl 0 rfl ?_
  refine k_iconst (v := 1) o hb dX12_fresh_10 (by decide) ?_
  refine k_zast o hb dX12_fresh_11 h (fun x4 h => ?_)
  refine k_aload_n o hb dX12_fresh_12 rfl 1 rfl ?_
  refine k_getF (C := RX12) (T := TX12) (N := 57) o hb hts in12 hown rfl (by decide) 12 (by decide) rfl (hts (.fieldLink RX12 43 "FactKeeperModel" "table" "[I") (by decide +kernel)) (fun _ h9 => h9) dX12_fresh_13 h (fun v5 h => ?_)
  refine k_iload_n o hb dX12_fresh_16 rfl 0 rfl ?_
  refine k_iload_n o hb dX12_fresh_17 rfl 2 rfl ?_
  refine k_iast o hb dX12_fresh_18 h (fun x6 h => ?_)
  refine k_aload_n o hb dX12_fresh_19 rfl 1 rfl ?_
  refine k_getF (C := RX12) (T := TX12) (N := 57) o hb hts in12 hown rfl (by decide) 14 (by decide) rfl (hts (.fieldLink RX12 49 "FactKeeperModel" "number" "[I") (by decide +kernel)) (fun _ h9 => h9) dX12_fresh_20 h (fun v7 h => ?_)
  refine k_iload_n o hb dX12_fresh_23 rfl 0 rfl ?_
  refine k_aload_n o hb dX12_fresh_24 rfl 1 rfl ?_
  refine k_getI (C := RX12) (T := TX12) (N := 57) o hb hts in12 hown rfl (by decide) 21 (by decide) rfl (hts (.fieldLink RX12 184 "FactKeeperModel" "numbers" "I") (by decide +kernel)) (fun _ h9 => h9) dX12_fresh_25 h (fun v8 h => ?_)
  refine k_iast o hb dX12_fresh_28 h (fun x9 h => ?_)
  refine k_aload_n o hb dX12_fresh_29 rfl 1 rfl ?_
  refine k_dup o hb dX12_fresh_30 ?_
  refine k_getI (C := RX12) (T := TX12) (N := 57) o hb hts in12 hown rfl (by decide) 21 (by decide) rfl (hts (.fieldLink RX12 184 "FactKeeperModel" "numbers" "I") (by decide +kernel)) (fun _ h9 => h9) dX12_fresh_31 h (fun v10 h => ?_)
  refine k_iconst (v := 1) o hb dX12_fresh_34 (by decide) ?_
  refine k_iadd o hb dX12_fresh_35 ?_
  refine k_putI (C := RX12) (T := TX12) (N := 57) (ty := .int) o hb hts in12 tyX12 tyX12_ok nmX12 hown rfl (by decide) 21 (by decide) rfl (hts (.fieldLink RX12 184 "FactKeeperModel" "numbers" "I") (by decide +kernel)) (fun _ h9 => h9) rfl (by decide +kernel) (fun _ => rfl) (fun _ => rfl) dX12_fresh_36 h (fun x11 h => ?_)
  refine k_aload_n o hb dX12_fresh_39 rfl 1 rfl ?_
  refine k_dup o hb dX12_fresh_40 ?_
  refine k_getI (C := RX12) (T := TX12) (N := 57) o hb hts in12 hown rfl (by decide) 20 (by decide) rfl (hts (.fieldLink RX12 187 "FactKeeperModel" "kept" "I") (by decide +kernel)) (fun _ h9 => h9) dX12_fresh_41 h (fun v12 h => ?_)
  refine k_iconst (v := 1) o hb dX12_fresh_44 (by decide) ?_
  refine k_iadd o hb dX12_fresh_45 ?_
  refine k_putI (C := RX12) (T := TX12) (N := 57) (ty := .int) o hb hts in12 tyX12 tyX12_ok nmX12 hown rfl (by decide) 20 (by decide) rfl (hts (.fieldLink RX12 187 "FactKeeperModel" "kept" "I") (by decide +kernel)) (fun _ h9 => h9) rfl (by decide +kernel) (fun _ => rfl) (fun _ => rfl) dX12_fresh_46 h (fun x13 h => ?_)
  refine k_aload_n o hb dX12_fresh_49 rfl 1 rfl ?_
  refine k_dup o hb dX12_fresh_50 ?_
  refine k_getI (C := RX12) (T := TX12) (N := 57) o hb hts in12 hown rfl (by decide) 22 (by decide) rfl (hts (.fieldLink RX12 150 "FactKeeperModel" "time" "I") (by decide +kernel)) (fun _ h9 => h9) dX12_fresh_51 h (fun v14 h => ?_)
  refine k_iconst (v := 1) o hb dX12_fresh_54 (by decide) ?_
  refine k_iadd o hb dX12_fresh_55 ?_
  refine k_putI (C := RX12) (T := TX12) (N := 57) (ty := .int) o hb hts in12 tyX12 tyX12_ok nmX12 hown rfl (by decide) 22 (by decide) rfl (hts (.fieldLink RX12 150 "FactKeeperModel" "time" "I") (by decide +kernel)) (fun _ h9 => h9) rfl (by decide +kernel) (fun _ => rfl) (fun _ => rfl) dX12_fresh_56 h (fun x15 h => ?_)
  refine k_aload_n o hb dX12_fresh_59 rfl 1 rfl ?_
  refine k_getF (C := RX12) (T := TX12) (N := 57) o hb hts in12 hown rfl (by decide) 15 (by decide) rfl (hts (.fieldLink RX12 52 "FactKeeperModel" "born" "[I") (by decide +kernel)) (fun _ h9 => h9) dX12_fresh_60 h (fun v16 h => ?_)
  refine k_iload_n o hb dX12_fresh_63 rfl 0 rfl ?_
  refine k_aload_n o hb dX12_fresh_64 rfl 1 rfl ?_
  refine k_getI (C := RX12) (T := TX12) (N := 57) o hb hts in12 hown rfl (by decide) 22 (by decide) rfl (hts (.fieldLink RX12 150 "FactKeeperModel" "time" "I") (by decide +kernel)) (fun _ h9 => h9) dX12_fresh_65 h (fun v17 h => ?_)
  refine k_iast o hb dX12_fresh_68 h (fun x18 h => ?_)
  refine k_aload_n o hb dX12_fresh_69 rfl 1 rfl ?_
  refine k_getF (C := RX12) (T := TX12) (N := 57) o hb hts in12 hown rfl (by decide) 16 (by decide) rfl (hts (.fieldLink RX12 55 "FactKeeperModel" "died" "[I") (by decide +kernel)) (fun _ h9 => h9) dX12_fresh_70 h (fun v19 h => ?_)
  refine k_iload_n o hb dX12_fresh_73 rfl 0 rfl ?_
  refine k_iconst (v := (-1)) o hb dX12_fresh_74 (by decide) ?_
  refine k_iast o hb dX12_fresh_75 h (fun x20 h => ?_)
  refine k_aload_n o hb dX12_fresh_76 rfl 1 rfl ?_
  refine k_getF (C := RX12) (T := TX12) (N := 57) o hb hts in12 hown rfl (by decide) 19 (by decide) rfl (hts (.fieldLink RX12 64 "FactKeeperModel" "stand" "[I") (by decide +kernel)) (fun _ h9 => h9) dX12_fresh_77 h (fun v21 h => ?_)
  refine k_iload_n o hb dX12_fresh_80 rfl 0 rfl ?_
  refine k_iload_n o hb dX12_fresh_81 rfl 0 rfl ?_
  refine k_iast o hb dX12_fresh_82 h (fun x22 h => ?_)
  refine k_aload_n o hb dX12_fresh_83 rfl 1 rfl ?_
  refine k_iload_n o hb dX12_fresh_84 rfl 0 rfl ?_
  refine k_run_v o (fun _ _ q => q) (k_runV (ci := 12) (rc := (RX12, TX12, 57)) o hb B.hml hown hts rfl (by decide) (T_X12_note g.l o.hl g.D g.cA h.2) (cwV 1 hts gX12_fresh_X12_note rfl rfl rfl (by decide +kernel) ⟨yle B.hR1 rfl, yle B.hR2 rfl⟩) h.1 rfl rfl (Nat.le_of_ble_eq_true rfl) dX12_fresh_85) (fun x23 h => ?_)
  refine k_iload_n o hb dX12_fresh_88 rfl 0 rfl ?_
  exact k_iret o hb B.hr fr dX12_fresh_89 h
theorem dX12_link_0 : decode cX12_link 0 = .ok (.aload_n 0, 1) := by decide +kernel
theorem dX12_link_1 : decode cX12_link 1 = .ok (.getfield 43, 3) := by decide +kernel
theorem dX12_link_4 : decode cX12_link 4 = .ok (.iload_n 1, 1) := by decide +kernel
theorem dX12_link_5 : decode cX12_link 5 = .ok (.iaload, 1) := by decide +kernel
theorem dX12_link_6 : decode cX12_link 6 = .ok (.istore_n 3, 1) := by decide +kernel
theorem dX12_link_7 : decode cX12_link 7 = .ok (.aload_n 0, 1) := by decide +kernel
theorem dX12_link_8 : decode cX12_link 8 = .ok (.getfield 58, 3) := by decide +kernel
theorem dX12_link_11 : decode cX12_link 11 = .ok (.iload_n 1, 1) := by decide +kernel
theorem dX12_link_12 : decode cX12_link 12 = .ok (.iload_n 2, 1) := by decide +kernel
theorem dX12_link_13 : decode cX12_link 13 = .ok (.iastore, 1) := by decide +kernel
theorem dX12_link_14 : decode cX12_link 14 = .ok (.aload_n 0, 1) := by decide +kernel
theorem dX12_link_15 : decode cX12_link 15 = .ok (.getfield 61, 3) := by decide +kernel
theorem dX12_link_18 : decode cX12_link 18 = .ok (.iload_n 1, 1) := by decide +kernel
theorem dX12_link_19 : decode cX12_link 19 = .ok (.iload_n 2, 1) := by decide +kernel
theorem dX12_link_20 : decode cX12_link 20 = .ok (.ifCond .ge 12, 3) := by decide +kernel
theorem dX12_link_23 : decode cX12_link 23 = .ok (.aload_n 0, 1) := by decide +kernel
theorem dX12_link_24 : decode cX12_link 24 = .ok (.getfield 30, 3) := by decide +kernel
theorem dX12_link_27 : decode cX12_link 27 = .ok (.iload_n 3, 1) := by decide +kernel
theorem dX12_link_28 : decode cX12_link 28 = .ok (.iaload, 1) := by decide +kernel
theorem dX12_link_29 : decode cX12_link 29 = .ok (.goto 9, 3) := by decide +kernel
theorem dX12_link_32 : decode cX12_link 32 = .ok (.aload_n 0, 1) := by decide +kernel
theorem dX12_link_33 : decode cX12_link 33 = .ok (.getfield 61, 3) := by decide +kernel
theorem dX12_link_36 : decode cX12_link 36 = .ok (.iload_n 2, 1) := by decide +kernel
theorem dX12_link_37 : decode cX12_link 37 = .ok (.iaload, 1) := by decide +kernel
theorem dX12_link_38 : decode cX12_link 38 = .ok (.iastore, 1) := by decide +kernel
theorem dX12_link_39 : decode cX12_link 39 = .ok (.iload_n 2, 1) := by decide +kernel
theorem dX12_link_40 : decode cX12_link 40 = .ok (.ifCond .ge 13, 3) := by decide +kernel
theorem dX12_link_43 : decode cX12_link 43 = .ok (.aload_n 0, 1) := by decide +kernel
theorem dX12_link_44 : decode cX12_link 44 = .ok (.getfield 30, 3) := by decide +kernel
theorem dX12_link_47 : decode cX12_link 47 = .ok (.iload_n 3, 1) := by decide +kernel
theorem dX12_link_48 : decode cX12_link 48 = .ok (.iload_n 1, 1) := by decide +kernel
theorem dX12_link_49 : decode cX12_link 49 = .ok (.iastore, 1) := by decide +kernel
theorem dX12_link_50 : decode cX12_link 50 = .ok (.goto 10, 3) := by decide +kernel
theorem dX12_link_53 : decode cX12_link 53 = .ok (.aload_n 0, 1) := by decide +kernel
theorem dX12_link_54 : decode cX12_link 54 = .ok (.getfield 61, 3) := by decide +kernel
theorem dX12_link_57 : decode cX12_link 57 = .ok (.iload_n 2, 1) := by decide +kernel
theorem dX12_link_58 : decode cX12_link 58 = .ok (.iload_n 1, 1) := by decide +kernel
theorem dX12_link_59 : decode cX12_link 59 = .ok (.iastore, 1) := by decide +kernel
theorem dX12_link_60 : decode cX12_link 60 = .ok (.aload_n 0, 1) := by decide +kernel
theorem dX12_link_61 : decode cX12_link 61 = .ok (.getfield 61, 3) := by decide +kernel
theorem dX12_link_64 : decode cX12_link 64 = .ok (.iload_n 1, 1) := by decide +kernel
theorem dX12_link_65 : decode cX12_link 65 = .ok (.iaload, 1) := by decide +kernel
theorem dX12_link_66 : decode cX12_link 66 = .ok (.ifCond .ge 13, 3) := by decide +kernel
theorem dX12_link_69 : decode cX12_link 69 = .ok (.aload_n 0, 1) := by decide +kernel
theorem dX12_link_70 : decode cX12_link 70 = .ok (.getfield 33, 3) := by decide +kernel
theorem dX12_link_73 : decode cX12_link 73 = .ok (.iload_n 3, 1) := by decide +kernel
theorem dX12_link_74 : decode cX12_link 74 = .ok (.iload_n 1, 1) := by decide +kernel
theorem dX12_link_75 : decode cX12_link 75 = .ok (.iastore, 1) := by decide +kernel
theorem dX12_link_76 : decode cX12_link 76 = .ok (.goto 15, 3) := by decide +kernel
theorem dX12_link_79 : decode cX12_link 79 = .ok (.aload_n 0, 1) := by decide +kernel
theorem dX12_link_80 : decode cX12_link 80 = .ok (.getfield 58, 3) := by decide +kernel
theorem dX12_link_83 : decode cX12_link 83 = .ok (.aload_n 0, 1) := by decide +kernel
theorem dX12_link_84 : decode cX12_link 84 = .ok (.getfield 61, 3) := by decide +kernel
theorem dX12_link_87 : decode cX12_link 87 = .ok (.iload_n 1, 1) := by decide +kernel
theorem dX12_link_88 : decode cX12_link 88 = .ok (.iaload, 1) := by decide +kernel
theorem dX12_link_89 : decode cX12_link 89 = .ok (.iload_n 1, 1) := by decide +kernel
theorem dX12_link_90 : decode cX12_link 90 = .ok (.iastore, 1) := by decide +kernel
theorem dX12_link_91 : decode cX12_link 91 = .ok (.return_, 1) := by decide +kernel
set_option maxHeartbeats 4000000 in
set_option maxRecDepth 100000 in
theorem T_X12_link (l : Launch) (hl : l.stackTraces = false) (D : va_G) (cA : Nat → ClassId) {l0 : Option Nat} {l1 : Int32} {l2 : Int32} {x : HS} {Q : HS → Prop} {X : String → HS → Prop} (h : w_X12_link l0 l1 l2 x Q X) : YV l yX12_link wsX12_link 0 0 D cA [.q l0, .i l1, .i l2] x Q X := by
  refine YV.of (cc := cX12_link) (maxL := 4) (ret := none) hl (by decide) rfl rfl (fun g B fr => ?_)
  have o := B.o
  have hb := B.hb
  have hts := B.hts
  have hown : g.s.vm.findClass RX12 = some g.m.cls := B.hown
  have in12 : ∀ w ∈ u_ws RX12 TX12 57, w ∈ wsX12_link := fun w h => (List.mem_cons_of_mem _ (List.mem_append_right _ h))
  unfold w_X12_link at h
  show KW g 4 0 [(0, .q l0), (1, .i l1), (2, .i l2)] [] x
  refine k_aload_n o hb dX12_link_0 rfl 0 rfl ?_
  refine k_getF (C := RX12) (T := TX12) (N := 57) o hb hts in12 hown rfl (by decide) 12 (by decide) rfl (hts (.fieldLink RX12 43 "FactKeeperModel" "table" "[I") (by decide +kernel)) (fun _ h9 => h9) dX12_link_1 h (fun v1 h => ?_)
  refine k_iload_n o hb dX12_link_4 rfl 1 rfl ?_
  refine k_iald o hb dX12_link_5 h (fun v2 h => ?_)
  refine k_istore_n o hb dX12_link_6 rfl rfl ?_
  refine k_aload_n o hb dX12_link_7 rfl 1 rfl ?_
  refine k_getF (C := RX12) (T := TX12) (N := 57) o hb hts in12 hown rfl (by decide) 17 (by decide) rfl (hts (.fieldLink RX12 58 "FactKeeperModel" "before" "[I") (by decide +kernel)) (fun _ h9 => h9) dX12_link_8 h (fun v3 h => ?_)
  refine k_iload_n o hb dX12_link_11 rfl 2 rfl ?_
  refine k_iload_n o hb dX12_link_12 rfl 3 rfl ?_
  refine k_iast o hb dX12_link_13 h (fun x4 h => ?_)
  refine k_aload_n o hb dX12_link_14 rfl 1 rfl ?_
  refine k_getF (C := RX12) (T := TX12) (N := 57) o hb hts in12 hown rfl (by decide) 18 (by decide) rfl (hts (.fieldLink RX12 61 "FactKeeperModel" "behind" "[I") (by decide +kernel)) (fun _ h9 => h9) dX12_link_15 h (fun v5 h => ?_)
  refine k_iload_n o hb dX12_link_18 rfl 2 rfl ?_
  refine k_iload_n o hb dX12_link_19 rfl 3 rfl ?_
  refine wJoin_elim (M := fun K => ∀ (v8 : Int32) (x7 : HS), K v8 x7 → KW g 4 38 [(0, .q l0), (1, .i l1), (2, .i l2), (3, .i v2)] [.i v8, .i l1, .q v5] x7) h ?_ (fun j6 hj6 h => ?_)
  · skip
    intro v8 x7 h
    refine k_iast o hb dX12_link_38 h (fun x9 h => ?_)
    refine k_iload_n o hb dX12_link_39 rfl 2 rfl ?_
    refine wJoin_elim (M := fun K => ∀  (x11 : HS), K  x11 → KW g 4 60 [(0, .q l0), (1, .i l1), (3, .i v2)] [] x11) h ?_ (fun j10 hj10 h => ?_)
    · skip
      intro  x11 h
      refine k_aload_n o hb dX12_link_60 rfl 0 rfl ?_
      refine k_getF (C := RX12) (T := TX12) (N := 57) o hb hts in12 hown rfl (by decide) 18 (by decide) rfl (hts (.fieldLink RX12 61 "FactKeeperModel" "behind" "[I") (by decide +kernel)) (fun _ h9 => h9) dX12_link_61 h (fun v12 h => ?_)
      refine k_iload_n o hb dX12_link_64 rfl 1 rfl ?_
      refine k_iald o hb dX12_link_65 h (fun v13 h => ?_)
      refine wJoin_elim (M := fun K => ∀  (x15 : HS), K  x15 → KW g 4 91 [] [] x15) h ?_ (fun j14 hj14 h => ?_)
      · skip
        intro  x15 h
        exact k_vret o hb B.hr fr dX12_link_91 h
      · skip
        refine k_if_ge (tgt := 79) o hb dX12_link_66 (by decide) h (fun h => ?_) (fun h => ?_)
        · skip
          refine k_aload_n o hb dX12_link_79 rfl 0 rfl ?_
          refine k_getF (C := RX12) (T := TX12) (N := 57) o hb hts in12 hown rfl (by decide) 17 (by decide) rfl (hts (.fieldLink RX12 58 "FactKeeperModel" "before" "[I") (by decide +kernel)) (fun _ h9 => h9) dX12_link_80 h (fun v16 h => ?_)
          refine k_aload_n o hb dX12_link_83 rfl 0 rfl ?_
          refine k_getF (C := RX12) (T := TX12) (N := 57) o hb hts in12 hown rfl (by decide) 18 (by decide) rfl (hts (.fieldLink RX12 61 "FactKeeperModel" "behind" "[I") (by decide +kernel)) (fun _ h9 => h9) dX12_link_84 h (fun v17 h => ?_)
          refine k_iload_n o hb dX12_link_87 rfl 1 rfl ?_
          refine k_iald o hb dX12_link_88 h (fun v18 h => ?_)
          refine k_iload_n o hb dX12_link_89 rfl 1 rfl ?_
          refine k_iast o hb dX12_link_90 h (fun x19 h => ?_)
          exact KW.sub [] rfl (hj14 x19 h)
        · skip
          refine k_aload_n o hb dX12_link_69 rfl 0 rfl ?_
          refine k_getF (C := RX12) (T := TX12) (N := 57) o hb hts in12 hown rfl (by decide) 8 (by decide) rfl (hts (.fieldLink RX12 33 "FactKeeperModel" "last" "[I") (by decide +kernel)) (fun _ h9 => h9) dX12_link_70 h (fun v20 h => ?_)
          refine k_iload_n o hb dX12_link_73 rfl 2 rfl ?_
          refine k_iload_n o hb dX12_link_74 rfl 1 rfl ?_
          refine k_iast o hb dX12_link_75 h (fun x21 h => ?_)
          refine k_goto (tgt := 91) o hb dX12_link_76 (by decide) ?_
          exact KW.sub [] rfl (hj14 x21 h)
    · skip
      refine k_if_ge (tgt := 53) o hb dX12_link_40 (by decide) h (fun h => ?_) (fun h => ?_)
      · skip
        refine k_aload_n o hb dX12_link_53 rfl 0 rfl ?_
        refine k_getF (C := RX12) (T := TX12) (N := 57) o hb hts in12 hown rfl (by decide) 18 (by decide) rfl (hts (.fieldLink RX12 61 "FactKeeperModel" "behind" "[I") (by decide +kernel)) (fun _ h9 => h9) dX12_link_54 h (fun v22 h => ?_)
        refine k_iload_n o hb dX12_link_57 rfl 2 rfl ?_
        refine k_iload_n o hb dX12_link_58 rfl 1 rfl ?_
        refine k_iast o hb dX12_link_59 h (fun x23 h => ?_)
        exact KW.sub [0, 1, 3] rfl (hj10 x23 h)
      · skip
        refine k_aload_n o hb dX12_link_43 rfl 0 rfl ?_
        refine k_getF (C := RX12) (T := TX12) (N := 57) o hb hts in12 hown rfl (by decide) 7 (by decide) rfl (hts (.fieldLink RX12 30 "FactKeeperModel" "first" "[I") (by decide +kernel)) (fun _ h9 => h9) dX12_link_44 h (fun v24 h => ?_)
        refine k_iload_n o hb dX12_link_47 rfl 3 rfl ?_
        refine k_iload_n o hb dX12_link_48 rfl 1 rfl ?_
        refine k_iast o hb dX12_link_49 h (fun x25 h => ?_)
        refine k_goto (tgt := 60) o hb dX12_link_50 (by decide) ?_
        exact KW.sub [0, 1, 3] rfl (hj10 x25 h)
  · skip
    refine k_if_ge (tgt := 32) o hb dX12_link_20 (by decide) h (fun h => ?_) (fun h => ?_)
    · skip
      refine k_aload_n o hb dX12_link_32 rfl 1 rfl ?_
      refine k_getF (C := RX12) (T := TX12) (N := 57) o hb hts in12 hown rfl (by decide) 18 (by decide) rfl (hts (.fieldLink RX12 61 "FactKeeperModel" "behind" "[I") (by decide +kernel)) (fun _ h9 => h9) dX12_link_33 h (fun v26 h => ?_)
      refine k_iload_n o hb dX12_link_36 rfl 3 rfl ?_
      refine k_iald o hb dX12_link_37 h (fun v27 h => ?_)
      exact KW.sub [1, 2, 3, 0] rfl (hj6 v27 x4 h)
    · skip
      refine k_aload_n o hb dX12_link_23 rfl 1 rfl ?_
      refine k_getF (C := RX12) (T := TX12) (N := 57) o hb hts in12 hown rfl (by decide) 7 (by decide) rfl (hts (.fieldLink RX12 30 "FactKeeperModel" "first" "[I") (by decide +kernel)) (fun _ h9 => h9) dX12_link_24 h (fun v28 h => ?_)
      refine k_iload_n o hb dX12_link_27 rfl 0 rfl ?_
      refine k_iald o hb dX12_link_28 h (fun v29 h => ?_)
      refine k_goto (tgt := 38) o hb dX12_link_29 (by decide) ?_
      exact KW.sub [1, 2, 3, 0] rfl (hj6 v29 x4 h)
theorem dX12_go_0 : decode cX12_go 0 = .ok (.aload_n 0, 1) := by decide +kernel
theorem dX12_go_1 : decode cX12_go 1 = .ok (.dup, 1) := by decide +kernel
theorem dX12_go_2 : decode cX12_go 2 = .ok (.getfield 150, 3) := by decide +kernel
theorem dX12_go_5 : decode cX12_go 5 = .ok (.iconst 1, 1) := by decide +kernel
theorem dX12_go_6 : decode cX12_go 6 = .ok (.iadd, 1) := by decide +kernel
theorem dX12_go_7 : decode cX12_go 7 = .ok (.putfield 150, 3) := by decide +kernel
theorem dX12_go_10 : decode cX12_go 10 = .ok (.aload_n 0, 1) := by decide +kernel
theorem dX12_go_11 : decode cX12_go 11 = .ok (.getfield 55, 3) := by decide +kernel
theorem dX12_go_14 : decode cX12_go 14 = .ok (.iload_n 1, 1) := by decide +kernel
theorem dX12_go_15 : decode cX12_go 15 = .ok (.aload_n 0, 1) := by decide +kernel
theorem dX12_go_16 : decode cX12_go 16 = .ok (.getfield 150, 3) := by decide +kernel
theorem dX12_go_19 : decode cX12_go 19 = .ok (.iastore, 1) := by decide +kernel
theorem dX12_go_20 : decode cX12_go 20 = .ok (.aload_n 0, 1) := by decide +kernel
theorem dX12_go_21 : decode cX12_go 21 = .ok (.iconst (-1), 1) := by decide +kernel
theorem dX12_go_22 : decode cX12_go 22 = .ok (.iload_n 1, 1) := by decide +kernel
theorem dX12_go_23 : decode cX12_go 23 = .ok (.isub, 1) := by decide +kernel
theorem dX12_go_24 : decode cX12_go 24 = .ok (.invokevirtual 190, 3) := by decide +kernel
theorem dX12_go_27 : decode cX12_go 27 = .ok (.return_, 1) := by decide +kernel
theorem i9wsX12_go_0 : ∀ w ∈ ([.fieldLink RX12 150 "FactKeeperModel" "time" "I", .fieldLink RX12 55 "FactKeeperModel" "died" "[I", .methodLink RX12 190 yX12_note, .instanceMethod yX12_note, .selects RX12 yX12_note yX12_note, .initialized RX12, .code yX12_note cX12_note 2 none, .fieldLink RX12 193 "FactKeeperModel" "marks" "I", .fieldLink RX12 67 "FactKeeperModel" "change" "[I", .fieldLink RX12 196 "FactKeeperModel" "changes" "I"] : List Cond), w ∈ wsX12_go := fun _ h => (List.mem_cons_of_mem _ (List.mem_append_left _ h))
theorem i9wsX12_go_1 : ∀ w ∈ wsX120, w ∈ wsX12_go := fun _ h => (List.mem_cons_of_mem _ (List.mem_append_right _ h))
set_option maxRecDepth 20000 in
theorem ggX12_go_X12_note : GoodIn wsX12_go wsX12_note := (gin_c (mem_at i9wsX12_go_0 6 rfl) rfl (goodIn_app (gin_c (mem_at i9wsX12_go_0 7 rfl) rfl (gin_c (mem_at i9wsX12_go_0 8 rfl) rfl (gin_c (mem_at i9wsX12_go_0 9 rfl) rfl gin_n))) (goodIn_sub i9wsX12_go_1 g9_16)))
set_option maxRecDepth 20000 in
theorem gX12_go_X12_note : GoodIn wsX12_go (wsV RX12 190 RX12 yX12_note wsX12_note) := goodIn_app (gin_c (mem_at i9wsX12_go_0 2 rfl) rfl (gin_c (mem_at i9wsX12_go_0 3 rfl) rfl (gin_c (mem_at i9wsX12_go_0 4 rfl) rfl (gin_c (mem_at i9wsX12_go_0 5 rfl) rfl gin_n)))) ggX12_go_X12_note
set_option maxHeartbeats 4000000 in
set_option maxRecDepth 100000 in
theorem T_X12_go (l : Launch) (hl : l.stackTraces = false) (D : va_G) (cA : Nat → ClassId) {l0 : Option Nat} {l1 : Int32} {x : HS} {Q : HS → Prop} {X : String → HS → Prop} (h : w_X12_go l0 l1 x Q X) : YV l yX12_go wsX12_go 1 21 D cA [.q l0, .i l1] x Q X := by
  refine YV.of (cc := cX12_go) (maxL := 2) (ret := none) hl (by decide) rfl rfl (fun g B fr => ?_)
  have o := B.o
  have hb := B.hb
  have hts := B.hts
  have hown : g.s.vm.findClass RX12 = some g.m.cls := B.hown
  have in12 : ∀ w ∈ u_ws RX12 TX12 57, w ∈ wsX12_go := fun w h => (List.mem_cons_of_mem _ (List.mem_append_right _ h))
  unfold w_X12_go at h
  show KW g 2 0 [(0, .q l0), (1, .i l1)] [] x
  refine k_aload_n o hb dX12_go_0 rfl 0 rfl ?_
  refine k_dup o hb dX12_go_1 ?_
  refine k_getI (C := RX12) (T := TX12) (N := 57) o hb hts in12 hown rfl (by decide) 22 (by decide) rfl (hts (.fieldLink RX12 150 "FactKeeperModel" "time" "I") (by decide +kernel)) (fun _ h9 => h9) dX12_go_2 h (fun v1 h => ?_)
  refine k_iconst (v := 1) o hb dX12_go_5 (by decide) ?_
  refine k_iadd o hb dX12_go_6 ?_
  refine k_putI (C := RX12) (T := TX12) (N := 57) (ty := .int) o hb hts in12 tyX12 tyX12_ok nmX12 hown rfl (by decide) 22 (by decide) rfl (hts (.fieldLink RX12 150 "FactKeeperModel" "time" "I") (by decide +kernel)) (fun _ h9 => h9) rfl (by decide +kernel) (fun _ => rfl) (fun _ => rfl) dX12_go_7 h (fun x2 h => ?_)
  refine k_aload_n o hb dX12_go_10 rfl 0 rfl ?_
  refine k_getF (C := RX12) (T := TX12) (N := 57) o hb hts in12 hown rfl (by decide) 16 (by decide) rfl (hts (.fieldLink RX12 55 "FactKeeperModel" "died" "[I") (by decide +kernel)) (fun _ h9 => h9) dX12_go_11 h (fun v3 h => ?_)
  refine k_iload_n o hb dX12_go_14 rfl 1 rfl ?_
  refine k_aload_n o hb dX12_go_15 rfl 0 rfl ?_
  refine k_getI (C := RX12) (T := TX12) (N := 57) o hb hts in12 hown rfl (by decide) 22 (by decide) rfl (hts (.fieldLink RX12 150 "FactKeeperModel" "time" "I") (by decide +kernel)) (fun _ h9 => h9) dX12_go_16 h (fun v4 h => ?_)
  refine k_iast o hb dX12_go_19 h (fun x5 h => ?_)
  refine k_aload_n o hb dX12_go_20 rfl 0 rfl ?_
  refine k_iconst (v := (-1)) o hb dX12_go_21 (by decide) ?_
  refine k_iload_n o hb dX12_go_22 rfl 1 rfl ?_
  refine k_isub o hb dX12_go_23 ?_
  refine k_run_v o (fun _ _ q => q) (k_runV (ci := 12) (rc := (RX12, TX12, 57)) o hb B.hml hown hts rfl (by decide) (T_X12_note g.l o.hl g.D g.cA h.2) (cwV 1 hts gX12_go_X12_note rfl rfl rfl (by decide +kernel) ⟨yle B.hR1 rfl, yle B.hR2 rfl⟩) h.1 rfl rfl (Nat.le_of_ble_eq_true rfl) dX12_go_24) (fun x6 h => ?_)
  exact k_vret o hb B.hr fr dX12_go_27 h
theorem dX12_add_0 : decode cX12_add 0 = .ok (.aload_n 0, 1) := by decide +kernel
theorem dX12_add_1 : decode cX12_add 1 = .ok (.iload_n 2, 1) := by decide +kernel
theorem dX12_add_2 : decode cX12_add 2 = .ok (.ifCond .lt 8, 3) := by decide +kernel
theorem dX12_add_5 : decode cX12_add 5 = .ok (.iload_n 2, 1) := by decide +kernel
theorem dX12_add_6 : decode cX12_add 6 = .ok (.iconst 1, 1) := by decide +kernel
theorem dX12_add_7 : decode cX12_add 7 = .ok (.if_icmp .le 7, 3) := by decide +kernel
theorem dX12_add_10 : decode cX12_add 10 = .ok (.iconst 1, 1) := by decide +kernel
theorem dX12_add_11 : decode cX12_add 11 = .ok (.goto 16, 3) := by decide +kernel
theorem dX12_add_14 : decode cX12_add 14 = .ok (.aload_n 0, 1) := by decide +kernel
theorem dX12_add_15 : decode cX12_add 15 = .ok (.iload_n 1, 1) := by decide +kernel
theorem dX12_add_16 : decode cX12_add 16 = .ok (.invokevirtual 153, 3) := by decide +kernel
theorem dX12_add_19 : decode cX12_add 19 = .ok (.ifCond .ne 7, 3) := by decide +kernel
theorem dX12_add_22 : decode cX12_add 22 = .ok (.iconst 2, 1) := by decide +kernel
theorem dX12_add_23 : decode cX12_add 23 = .ok (.goto 4, 3) := by decide +kernel
theorem dX12_add_26 : decode cX12_add 26 = .ok (.iconst 0, 1) := by decide +kernel
theorem dX12_add_27 : decode cX12_add 27 = .ok (.invokevirtual 136, 3) := by decide +kernel
theorem dX12_add_30 : decode cX12_add 30 = .ok (.ifCond .eq 5, 3) := by decide +kernel
theorem dX12_add_33 : decode cX12_add 33 = .ok (.iconst 0, 1) := by decide +kernel
theorem dX12_add_34 : decode cX12_add 34 = .ok (.ireturn, 1) := by decide +kernel
theorem dX12_add_35 : decode cX12_add 35 = .ok (.iconst 0, 1) := by decide +kernel
theorem dX12_add_36 : decode cX12_add 36 = .ok (.istore_n 3, 1) := by decide +kernel
theorem dX12_add_37 : decode cX12_add 37 = .ok (.aload_n 0, 1) := by decide +kernel
theorem dX12_add_38 : decode cX12_add 38 = .ok (.getfield 30, 3) := by decide +kernel
theorem dX12_add_41 : decode cX12_add 41 = .ok (.iload_n 1, 1) := by decide +kernel
theorem dX12_add_42 : decode cX12_add 42 = .ok (.iaload, 1) := by decide +kernel
theorem dX12_add_43 : decode cX12_add 43 = .ok (.istore 4, 2) := by decide +kernel
theorem dX12_add_45 : decode cX12_add 45 = .ok (.iload 4, 2) := by decide +kernel
theorem dX12_add_47 : decode cX12_add 47 = .ok (.ifCond .lt 75, 3) := by decide +kernel
theorem dX12_add_50 : decode cX12_add 50 = .ok (.iconst 0, 1) := by decide +kernel
theorem dX12_add_51 : decode cX12_add 51 = .ok (.istore 5, 2) := by decide +kernel
theorem dX12_add_53 : decode cX12_add 53 = .ok (.iload 5, 2) := by decide +kernel
theorem dX12_add_55 : decode cX12_add 55 = .ok (.aload_n 0, 1) := by decide +kernel
theorem dX12_add_56 : decode cX12_add 56 = .ok (.getfield 27, 3) := by decide +kernel
theorem dX12_add_59 : decode cX12_add 59 = .ok (.iload_n 1, 1) := by decide +kernel
theorem dX12_add_60 : decode cX12_add 60 = .ok (.iaload, 1) := by decide +kernel
theorem dX12_add_61 : decode cX12_add 61 = .ok (.if_icmp .ge 49, 3) := by decide +kernel
theorem dX12_add_64 : decode cX12_add 64 = .ok (.aload_n 0, 1) := by decide +kernel
theorem dX12_add_65 : decode cX12_add 65 = .ok (.iload 4, 2) := by decide +kernel
theorem dX12_add_67 : decode cX12_add 67 = .ok (.aload_n 0, 1) := by decide +kernel
theorem dX12_add_68 : decode cX12_add 68 = .ok (.getfield 150, 3) := by decide +kernel
theorem dX12_add_71 : decode cX12_add 71 = .ok (.invokevirtual 156, 3) := by decide +kernel
theorem dX12_add_74 : decode cX12_add 74 = .ok (.ifCond .eq 36, 3) := by decide +kernel
theorem dX12_add_77 : decode cX12_add 77 = .ok (.aload_n 0, 1) := by decide +kernel
theorem dX12_add_78 : decode cX12_add 78 = .ok (.iload 4, 2) := by decide +kernel
theorem dX12_add_80 : decode cX12_add 80 = .ok (.aload_n 0, 1) := by decide +kernel
theorem dX12_add_81 : decode cX12_add 81 = .ok (.getfield 36, 3) := by decide +kernel
theorem dX12_add_84 : decode cX12_add 84 = .ok (.iconst 3, 1) := by decide +kernel
theorem dX12_add_85 : decode cX12_add 85 = .ok (.iload_n 1, 1) := by decide +kernel
theorem dX12_add_86 : decode cX12_add 86 = .ok (.imul, 1) := by decide +kernel
theorem dX12_add_87 : decode cX12_add 87 = .ok (.iload 5, 2) := by decide +kernel
theorem dX12_add_89 : decode cX12_add 89 = .ok (.iadd, 1) := by decide +kernel
theorem dX12_add_90 : decode cX12_add 90 = .ok (.iaload, 1) := by decide +kernel
theorem dX12_add_91 : decode cX12_add 91 = .ok (.aload_n 0, 1) := by decide +kernel
theorem dX12_add_92 : decode cX12_add 92 = .ok (.getfield 17, 3) := by decide +kernel
theorem dX12_add_95 : decode cX12_add 95 = .ok (.iconst 0, 1) := by decide +kernel
theorem dX12_add_96 : decode cX12_add 96 = .ok (.invokevirtual 171, 3) := by decide +kernel
theorem dX12_add_99 : decode cX12_add 99 = .ok (.ifCond .eq 5, 3) := by decide +kernel
theorem dX12_add_102 : decode cX12_add 102 = .ok (.iconst 1, 1) := by decide +kernel
theorem dX12_add_103 : decode cX12_add 103 = .ok (.istore_n 3, 1) := by decide +kernel
theorem dX12_add_104 : decode cX12_add 104 = .ok (.iinc 5 1, 3) := by decide +kernel
theorem dX12_add_107 : decode cX12_add 107 = .ok (.goto (-54), 3) := by decide +kernel
theorem dX12_add_110 : decode cX12_add 110 = .ok (.aload_n 0, 1) := by decide +kernel
theorem dX12_add_111 : decode cX12_add 111 = .ok (.getfield 61, 3) := by decide +kernel
theorem dX12_add_114 : decode cX12_add 114 = .ok (.iload 4, 2) := by decide +kernel
theorem dX12_add_116 : decode cX12_add 116 = .ok (.iaload, 1) := by decide +kernel
theorem dX12_add_117 : decode cX12_add 117 = .ok (.istore 4, 2) := by decide +kernel
theorem dX12_add_119 : decode cX12_add 119 = .ok (.goto (-74), 3) := by decide +kernel
theorem dX12_add_122 : decode cX12_add 122 = .ok (.aload_n 0, 1) := by decide +kernel
theorem dX12_add_123 : decode cX12_add 123 = .ok (.iload_n 3, 1) := by decide +kernel
theorem dX12_add_124 : decode cX12_add 124 = .ok (.ifCond .eq 7, 3) := by decide +kernel
theorem dX12_add_127 : decode cX12_add 127 = .ok (.iconst 3, 1) := by decide +kernel
theorem dX12_add_128 : decode cX12_add 128 = .ok (.goto 18, 3) := by decide +kernel
theorem dX12_add_131 : decode cX12_add 131 = .ok (.aload_n 0, 1) := by decide +kernel
theorem dX12_add_132 : decode cX12_add 132 = .ok (.getfield 187, 3) := by decide +kernel
theorem dX12_add_135 : decode cX12_add 135 = .ok (.sipush 3000, 3) := by decide +kernel
theorem dX12_add_138 : decode cX12_add 138 = .ok (.if_icmp .ne 7, 3) := by decide +kernel
theorem dX12_add_141 : decode cX12_add 141 = .ok (.iconst 4, 1) := by decide +kernel
theorem dX12_add_142 : decode cX12_add 142 = .ok (.goto 4, 3) := by decide +kernel
theorem dX12_add_145 : decode cX12_add 145 = .ok (.iconst 0, 1) := by decide +kernel
theorem dX12_add_146 : decode cX12_add 146 = .ok (.invokevirtual 136, 3) := by decide +kernel
theorem dX12_add_149 : decode cX12_add 149 = .ok (.ifCond .eq 5, 3) := by decide +kernel
theorem dX12_add_152 : decode cX12_add 152 = .ok (.iconst 0, 1) := by decide +kernel
theorem dX12_add_153 : decode cX12_add 153 = .ok (.ireturn, 1) := by decide +kernel
theorem dX12_add_154 : decode cX12_add 154 = .ok (.aload_n 0, 1) := by decide +kernel
theorem dX12_add_155 : decode cX12_add 155 = .ok (.iload_n 1, 1) := by decide +kernel
theorem dX12_add_156 : decode cX12_add 156 = .ok (.invokevirtual 199, 3) := by decide +kernel
theorem dX12_add_159 : decode cX12_add 159 = .ok (.istore 4, 2) := by decide +kernel
theorem dX12_add_161 : decode cX12_add 161 = .ok (.iconst 0, 1) := by decide +kernel
theorem dX12_add_162 : decode cX12_add 162 = .ok (.istore 5, 2) := by decide +kernel
theorem dX12_add_164 : decode cX12_add 164 = .ok (.iload 5, 2) := by decide +kernel
theorem dX12_add_166 : decode cX12_add 166 = .ok (.iconst 4, 1) := by decide +kernel
theorem dX12_add_167 : decode cX12_add 167 = .ok (.if_icmp .ge 43, 3) := by decide +kernel
theorem dX12_add_170 : decode cX12_add 170 = .ok (.aload_n 0, 1) := by decide +kernel
theorem dX12_add_171 : decode cX12_add 171 = .ok (.getfield 46, 3) := by decide +kernel
theorem dX12_add_174 : decode cX12_add 174 = .ok (.iconst 4, 1) := by decide +kernel
theorem dX12_add_175 : decode cX12_add 175 = .ok (.iload 4, 2) := by decide +kernel
theorem dX12_add_177 : decode cX12_add 177 = .ok (.imul, 1) := by decide +kernel
theorem dX12_add_178 : decode cX12_add 178 = .ok (.iload 5, 2) := by decide +kernel
theorem dX12_add_180 : decode cX12_add 180 = .ok (.iadd, 1) := by decide +kernel
theorem dX12_add_181 : decode cX12_add 181 = .ok (.iload 5, 2) := by decide +kernel
theorem dX12_add_183 : decode cX12_add 183 = .ok (.aload_n 0, 1) := by decide +kernel
theorem dX12_add_184 : decode cX12_add 184 = .ok (.getfield 21, 3) := by decide +kernel
theorem dX12_add_187 : decode cX12_add 187 = .ok (.iload_n 1, 1) := by decide +kernel
theorem dX12_add_188 : decode cX12_add 188 = .ok (.iaload, 1) := by decide +kernel
theorem dX12_add_189 : decode cX12_add 189 = .ok (.if_icmp .ge 13, 3) := by decide +kernel
theorem dX12_add_192 : decode cX12_add 192 = .ok (.aload_n 0, 1) := by decide +kernel
theorem dX12_add_193 : decode cX12_add 193 = .ok (.getfield 17, 3) := by decide +kernel
theorem dX12_add_196 : decode cX12_add 196 = .ok (.iload 5, 2) := by decide +kernel
theorem dX12_add_198 : decode cX12_add 198 = .ok (.iaload, 1) := by decide +kernel
theorem dX12_add_199 : decode cX12_add 199 = .ok (.goto 4, 3) := by decide +kernel
theorem dX12_add_202 : decode cX12_add 202 = .ok (.iconst 0, 1) := by decide +kernel
theorem dX12_add_203 : decode cX12_add 203 = .ok (.iastore, 1) := by decide +kernel
theorem dX12_add_204 : decode cX12_add 204 = .ok (.iinc 5 1, 3) := by decide +kernel
theorem dX12_add_207 : decode cX12_add 207 = .ok (.goto (-43), 3) := by decide +kernel
theorem dX12_add_210 : decode cX12_add 210 = .ok (.aload_n 0, 1) := by decide +kernel
theorem dX12_add_211 : decode cX12_add 211 = .ok (.iload 4, 2) := by decide +kernel
theorem dX12_add_213 : decode cX12_add 213 = .ok (.iload_n 2, 1) := by decide +kernel
theorem dX12_add_214 : decode cX12_add 214 = .ok (.iconst 1, 1) := by decide +kernel
theorem dX12_add_215 : decode cX12_add 215 = .ok (.if_icmp .ne 7, 3) := by decide +kernel
theorem dX12_add_218 : decode cX12_add 218 = .ok (.iconst (-1), 1) := by decide +kernel
theorem dX12_add_219 : decode cX12_add 219 = .ok (.goto 9, 3) := by decide +kernel
theorem dX12_add_222 : decode cX12_add 222 = .ok (.aload_n 0, 1) := by decide +kernel
theorem dX12_add_223 : decode cX12_add 223 = .ok (.getfield 33, 3) := by decide +kernel
theorem dX12_add_226 : decode cX12_add 226 = .ok (.iload_n 1, 1) := by decide +kernel
theorem dX12_add_227 : decode cX12_add 227 = .ok (.iaload, 1) := by decide +kernel
theorem dX12_add_228 : decode cX12_add 228 = .ok (.invokevirtual 203, 3) := by decide +kernel
theorem dX12_add_231 : decode cX12_add 231 = .ok (.aload_n 0, 1) := by decide +kernel
theorem dX12_add_232 : decode cX12_add 232 = .ok (.getfield 49, 3) := by decide +kernel
theorem dX12_add_235 : decode cX12_add 235 = .ok (.iload 4, 2) := by decide +kernel
theorem dX12_add_237 : decode cX12_add 237 = .ok (.iaload, 1) := by decide +kernel
theorem dX12_add_238 : decode cX12_add 238 = .ok (.ireturn, 1) := by decide +kernel
theorem i9wsX12_add_0 : ∀ w ∈ wsX12_add_r1, w ∈ wsX12_add := fun _ h => (List.mem_cons_of_mem _ (List.mem_append_left _ (List.mem_append_left _ h)))
theorem i9wsX12_add_3 : ∀ w ∈ wsX120, w ∈ wsX12_add := fun _ h => (List.mem_cons_of_mem _ (List.mem_append_right _ h))
set_option maxRecDepth 20000 in
theorem ggX12_add_X12_isTable : GoodIn wsX12_add wsX12_isTable := (gin_c (mem_at i9wsX12_add_0 15 rfl) rfl (goodIn_app (gin_c (mem_at i9wsX12_add_0 16 rfl) rfl gin_n) (goodIn_sub i9wsX12_add_3 g9_16)))
set_option maxRecDepth 20000 in
theorem gX12_add_X12_isTable : GoodIn wsX12_add (wsV RX12 153 RX12 yX12_isTable wsX12_isTable) := goodIn_app (gin_c (mem_at i9wsX12_add_0 11 rfl) rfl (gin_c (mem_at i9wsX12_add_0 12 rfl) rfl (gin_c (mem_at i9wsX12_add_0 13 rfl) rfl (gin_c (mem_at i9wsX12_add_0 14 rfl) rfl gin_n)))) ggX12_add_X12_isTable
set_option maxRecDepth 20000 in
theorem ggX12_add_X12_fails : GoodIn wsX12_add wsX12_fails := (gin_c (mem_at i9wsX12_add_0 20 rfl) rfl (goodIn_app (gin_c (mem_at i9wsX12_add_0 21 rfl) rfl gin_n) (goodIn_sub i9wsX12_add_3 g9_16)))
set_option maxRecDepth 20000 in
theorem gX12_add_X12_fails : GoodIn wsX12_add (wsV RX12 136 RX12 yX12_fails wsX12_fails) := goodIn_app (gin_c (mem_at i9wsX12_add_0 17 rfl) rfl (gin_c (mem_at i9wsX12_add_0 18 rfl) rfl (gin_c (mem_at i9wsX12_add_0 19 rfl) rfl (gin_c (mem_at i9wsX12_add_0 14 rfl) rfl gin_n)))) ggX12_add_X12_fails
theorem i9wsX12_add_1 : ∀ w ∈ wsX12_add_r2, w ∈ wsX12_add := fun _ h => (List.mem_cons_of_mem _ (List.mem_append_left _ (List.mem_append_right _ (List.mem_append_left _ h))))
set_option maxRecDepth 20000 in
theorem ggX12_add_X12_isThere : GoodIn wsX12_add wsX12_isThere := (gin_c (mem_at i9wsX12_add_1 1 rfl) rfl (goodIn_app (gin_c (mem_at i9wsX12_add_1 2 rfl) rfl (gin_c (mem_at i9wsX12_add_1 3 rfl) rfl gin_n)) (goodIn_sub i9wsX12_add_3 g9_16)))
set_option maxRecDepth 20000 in
theorem gX12_add_X12_isThere : GoodIn wsX12_add (wsV RX12 156 RX12 yX12_isThere wsX12_isThere) := goodIn_app (gin_c (mem_at i9wsX12_add_0 22 rfl) rfl (gin_c (mem_at i9wsX12_add_0 23 rfl) rfl (gin_c (mem_at i9wsX12_add_1 0 rfl) rfl (gin_c (mem_at i9wsX12_add_0 14 rfl) rfl gin_n)))) ggX12_add_X12_isThere
set_option maxRecDepth 20000 in
theorem ggX12_add_X12_fits : GoodIn wsX12_add wsX12_fits := (gin_c (mem_at i9wsX12_add_1 7 rfl) rfl (goodIn_app (gin_c (mem_at i9wsX12_add_0 8 rfl) rfl (gin_c (mem_at i9wsX12_add_1 8 rfl) rfl (gin_c (mem_at i9wsX12_add_0 7 rfl) rfl gin_n))) (goodIn_sub i9wsX12_add_3 g9_16)))
set_option maxRecDepth 20000 in
theorem gX12_add_X12_fits : GoodIn wsX12_add (wsV RX12 171 RX12 yX12_fits wsX12_fits) := goodIn_app (gin_c (mem_at i9wsX12_add_1 4 rfl) rfl (gin_c (mem_at i9wsX12_add_1 5 rfl) rfl (gin_c (mem_at i9wsX12_add_1 6 rfl) rfl (gin_c (mem_at i9wsX12_add_0 14 rfl) rfl gin_n)))) ggX12_add_X12_fits
theorem i9wsX12_add_2 : ∀ w ∈ wsX12_add_r3, w ∈ wsX12_add := fun _ h => (List.mem_cons_of_mem _ (List.mem_append_left _ (List.mem_append_right _ (List.mem_append_right _ h))))
set_option maxRecDepth 20000 in
theorem ggX12_add_X12_fresh : GoodIn wsX12_add wsX12_fresh := (gin_c (mem_at i9wsX12_add_1 12 rfl) rfl (goodIn_app (gin_c (mem_at i9wsX12_add_1 13 rfl) rfl (gin_c (mem_at i9wsX12_add_1 8 rfl) rfl (gin_c (mem_at i9wsX12_add_0 10 rfl) rfl (gin_c (mem_at i9wsX12_add_1 14 rfl) rfl (gin_c (mem_at i9wsX12_add_0 6 rfl) rfl (gin_c (mem_at i9wsX12_add_0 2 rfl) rfl (gin_c (mem_at i9wsX12_add_1 2 rfl) rfl (gin_c (mem_at i9wsX12_add_1 3 rfl) rfl (gin_c (mem_at i9wsX12_add_1 15 rfl) rfl (gin_c (mem_at i9wsX12_add_1 16 rfl) rfl (gin_c (mem_at i9wsX12_add_1 17 rfl) rfl (gin_c (mem_at i9wsX12_add_1 18 rfl) rfl (gin_c (mem_at i9wsX12_add_0 14 rfl) rfl (gin_c (mem_at i9wsX12_add_1 19 rfl) rfl (gin_c (mem_at i9wsX12_add_1 20 rfl) rfl (gin_c (mem_at i9wsX12_add_1 21 rfl) rfl (gin_c (mem_at i9wsX12_add_1 22 rfl) rfl (gin_c (mem_at i9wsX12_add_1 23 rfl) rfl (gin_c (mem_at i9wsX12_add_2 0 rfl) rfl (gin_c (mem_at i9wsX12_add_2 1 rfl) rfl (gin_c (mem_at i9wsX12_add_2 2 rfl) rfl gin_n))))))))))))))))))))) (goodIn_sub i9wsX12_add_3 g9_16)))
set_option maxRecDepth 20000 in
theorem gX12_add_X12_fresh : GoodIn wsX12_add (wsV RX12 199 RX12 yX12_fresh wsX12_fresh) := goodIn_app (gin_c (mem_at i9wsX12_add_1 9 rfl) rfl (gin_c (mem_at i9wsX12_add_1 10 rfl) rfl (gin_c (mem_at i9wsX12_add_1 11 rfl) rfl (gin_c (mem_at i9wsX12_add_0 14 rfl) rfl gin_n)))) ggX12_add_X12_fresh
set_option maxRecDepth 20000 in
theorem ggX12_add_X12_link : GoodIn wsX12_add wsX12_link := (gin_c (mem_at i9wsX12_add_2 6 rfl) rfl (goodIn_app (gin_c (mem_at i9wsX12_add_1 8 rfl) rfl (gin_c (mem_at i9wsX12_add_2 7 rfl) rfl (gin_c (mem_at i9wsX12_add_0 5 rfl) rfl (gin_c (mem_at i9wsX12_add_0 0 rfl) rfl (gin_c (mem_at i9wsX12_add_0 9 rfl) rfl gin_n))))) (goodIn_sub i9wsX12_add_3 g9_16)))
set_option maxRecDepth 20000 in
theorem gX12_add_X12_link : GoodIn wsX12_add (wsV RX12 203 RX12 yX12_link wsX12_link) := goodIn_app (gin_c (mem_at i9wsX12_add_2 3 rfl) rfl (gin_c (mem_at i9wsX12_add_2 4 rfl) rfl (gin_c (mem_at i9wsX12_add_2 5 rfl) rfl (gin_c (mem_at i9wsX12_add_0 14 rfl) rfl gin_n)))) ggX12_add_X12_link
set_option maxHeartbeats 4000000 in
set_option maxRecDepth 100000 in
theorem T_X12_add (l : Launch) (hl : l.stackTraces = false) (D : va_G) (cA : Nat → ClassId) {l0 : Option Nat} {l1 : Int32} {l2 : Int32} {x : HS} {Q : Int32 → HS → Prop} {X : String → HS → Prop} (h : w_X12_add l0 l1 l2 x Q X) : YI l yX12_add wsX12_add 2 43 D cA [.q l0, .i l1, .i l2] x Q X := by
  refine YI.of (cc := cX12_add) (maxL := 6) (ret := (some .int)) hl (by decide) rfl rfl (fun g B fr => ?_)
  have o := B.o
  have hb := B.hb
  have hts := B.hts
  have hown : g.s.vm.findClass RX12 = some g.m.cls := B.hown
  have in12 : ∀ w ∈ u_ws RX12 TX12 57, w ∈ wsX12_add := fun w h => (List.mem_cons_of_mem _ (List.mem_append_right _ h))
  unfold w_X12_add at h
  show KW g 6 0 [(0, .q l0), (1, .i l1), (2, .i l2)] [] x
  refine k_aload_n o hb dX12_add_0 rfl 0 rfl ?_
  refine k_iload_n o hb dX12_add_1 rfl 2 rfl ?_
  refine wJoin_elim (M := fun K => ∀ (v3 : Int32) (x2 : HS), K v3 x2 → KW g 6 27 [(0, .q l0), (1, .i l1), (2, .i l2)] [.i v3, .q l0] x2) h ?_ (fun j1 hj1 h => ?_)
  · skip
    intro v3 x2 h
    refine k_run_i o (fun _ _ q => q) (k_runV (ci := 12) (rc := (RX12, TX12, 57)) o hb B.hml hown hts rfl (by decide) (T_X12_fails g.l o.hl g.D g.cA h.2) (cwV 1 hts gX12_add_X12_fails rfl rfl rfl (by decide +kernel) ⟨yle B.hR1 rfl, yle B.hR2 rfl⟩) h.1 rfl rfl (Nat.le_of_ble_eq_true rfl) dX12_add_27) (fun v5 x4 h => ?_)
    refine k_if_eq (tgt := 35) o hb dX12_add_30 (by decide) h (fun h => ?_) (fun h => ?_)
    · skip
      refine k_iconst (v := 0) o hb dX12_add_35 (by decide) ?_
      refine k_istore_n o hb dX12_add_36 rfl rfl ?_
      refine k_aload_n o hb dX12_add_37 rfl 1 rfl ?_
      refine k_getF (C := RX12) (T := TX12) (N := 57) o hb hts in12 hown rfl (by decide) 7 (by decide) rfl (hts (.fieldLink RX12 30 "FactKeeperModel" "first" "[I") (by decide +kernel)) (fun _ h9 => h9) dX12_add_38 h (fun v6 h => ?_)
      refine k_iload_n o hb dX12_add_41 rfl 2 rfl ?_
      refine k_iald o hb dX12_add_42 h (fun v7 h => ?_)
      refine k_istore o hb dX12_add_43 rfl ?_
      refine KW.sub [2, 3, 4, 1, 0] rfl ?_
      refine wLoop_elim (M := fun (v11 : Int32 × Int32) (x10 : HS) => KW g 6 45 [(0, .q l0), (1, .i l1), (2, .i l2), (3, .i v11.1), (4, .i v11.2)] [] x10) h ?_
      intro v11 x10 again8 ih9 h
      refine k_iload o hb dX12_add_45 4 rfl ?_
      refine k_if_lt (tgt := 122) o hb dX12_add_47 (by decide) h (fun h => ?_) (fun h => ?_)
      · skip
        refine k_aload_n o hb dX12_add_122 rfl 0 rfl ?_
        refine k_iload_n o hb dX12_add_123 rfl 3 rfl ?_
        refine wJoin_elim (M := fun K => ∀ (v14 : Int32) (x13 : HS), K v14 x13 → KW g 6 146 [(0, .q l0), (1, .i l1), (2, .i l2)] [.i v14, .q l0] x13) h ?_ (fun j12 hj12 h => ?_)
        · skip
          intro v14 x13 h
          refine k_run_i o (fun _ _ q => q) (k_runV (ci := 12) (rc := (RX12, TX12, 57)) o hb B.hml hown hts rfl (by decide) (T_X12_fails g.l o.hl g.D g.cA h.2) (cwV 1 hts gX12_add_X12_fails rfl rfl rfl (by decide +kernel) ⟨yle B.hR1 rfl, yle B.hR2 rfl⟩) h.1 rfl rfl (Nat.le_of_ble_eq_true rfl) dX12_add_146) (fun v16 x15 h => ?_)
          refine k_if_eq (tgt := 154) o hb dX12_add_149 (by decide) h (fun h => ?_) (fun h => ?_)
          · skip
            refine k_aload_n o hb dX12_add_154 rfl 0 rfl ?_
            refine k_iload_n o hb dX12_add_155 rfl 1 rfl ?_
            refine k_run_i o (fun _ _ q => q) (k_runV (ci := 12) (rc := (RX12, TX12, 57)) o hb B.hml hown hts rfl (by decide) (T_X12_fresh g.l o.hl g.D g.cA h.2) (cwV 1 hts gX12_add_X12_fresh rfl rfl rfl (by decide +kernel) ⟨yle B.hR1 rfl, yle B.hR2 rfl⟩) h.1 rfl rfl (Nat.le_of_ble_eq_true rfl) dX12_add_156) (fun v18 x17 h => ?_)
            refine k_istore o hb dX12_add_159 rfl ?_
            refine k_iconst (v := 0) o hb dX12_add_161 (by decide) ?_
            refine k_istore o hb dX12_add_162 rfl ?_
            refine KW.sub [2, 3, 4, 1, 0] rfl ?_
            refine wLoop_elim (M := fun (v22 : Int32) (x21 : HS) => KW g 6 164 [(0, .q l0), (1, .i l1), (2, .i l2), (4, .i v18), (5, .i v22)] [] x21) h ?_
            intro v22 x21 again19 ih20 h
            refine k_iload o hb dX12_add_164 4 rfl ?_
            refine k_iconst (v := 4) o hb dX12_add_166 (by decide) ?_
            refine k_icmp_ge (tgt := 210) o hb dX12_add_167 (by decide) h (fun h => ?_) (fun h => ?_)
            · skip
              refine k_aload_n o hb dX12_add_210 rfl 0 rfl ?_
              refine k_iload o hb dX12_add_211 3 rfl ?_
              refine k_iload_n o hb dX12_add_213 rfl 2 rfl ?_
              refine k_iconst (v := 1) o hb dX12_add_214 (by decide) ?_
              refine wJoin_elim (M := fun K => ∀ (v25 : Int32) (x24 : HS), K v25 x24 → KW g 6 228 [(0, .q l0), (4, .i v18)] [.i v25, .i v18, .q l0] x24) h ?_ (fun j23 hj23 h => ?_)
              · skip
                intro v25 x24 h
                refine k_run_v o (fun _ _ q => q) (k_runV (ci := 12) (rc := (RX12, TX12, 57)) o hb B.hml hown hts rfl (by decide) (T_X12_link g.l o.hl g.D g.cA h.2) (cwV 2 hts gX12_add_X12_link rfl rfl rfl (by decide +kernel) ⟨yle B.hR1 rfl, yle B.hR2 rfl⟩) h.1 rfl rfl (Nat.le_of_ble_eq_true rfl) dX12_add_228) (fun x26 h => ?_)
                refine k_aload_n o hb dX12_add_231 rfl 0 rfl ?_
                refine k_getF (C := RX12) (T := TX12) (N := 57) o hb hts in12 hown rfl (by decide) 14 (by decide) rfl (hts (.fieldLink RX12 49 "FactKeeperModel" "number" "[I") (by decide +kernel)) (fun _ h9 => h9) dX12_add_232 h (fun v28 h => ?_)
                refine k_iload o hb dX12_add_235 1 rfl ?_
                refine k_iald o hb dX12_add_237 h (fun v29 h => ?_)
                exact k_iret o hb B.hr fr dX12_add_238 h
              · skip
                refine k_icmp_ne (tgt := 222) o hb dX12_add_215 (by decide) h (fun h => ?_) (fun h => ?_)
                · skip
                  refine k_iconst (v := (-1)) o hb dX12_add_218 (by decide) ?_
                  refine k_goto (tgt := 228) o hb dX12_add_219 (by decide) ?_
                  exact KW.sub [0, 3] rfl (hj23 (-1) x21 h)
                · skip
                  refine k_aload_n o hb dX12_add_222 rfl 0 rfl ?_
                  refine k_getF (C := RX12) (T := TX12) (N := 57) o hb hts in12 hown rfl (by decide) 8 (by decide) rfl (hts (.fieldLink RX12 33 "FactKeeperModel" "last" "[I") (by decide +kernel)) (fun _ h9 => h9) dX12_add_223 h (fun v30 h => ?_)
                  refine k_iload_n o hb dX12_add_226 rfl 1 rfl ?_
                  refine k_iald o hb dX12_add_227 h (fun v31 h => ?_)
                  exact KW.sub [0, 3] rfl (hj23 v31 x21 h)
            · skip
              refine k_aload_n o hb dX12_add_170 rfl 0 rfl ?_
              refine k_getF (C := RX12) (T := TX12) (N := 57) o hb hts in12 hown rfl (by decide) 13 (by decide) rfl (hts (.fieldLink RX12 46 "FactKeeperModel" "column" "[I") (by decide +kernel)) (fun _ h9 => h9) dX12_add_171 h (fun v32 h => ?_)
              refine k_iconst (v := 4) o hb dX12_add_174 (by decide) ?_
              refine k_iload o hb dX12_add_175 3 rfl ?_
              refine k_imul o hb dX12_add_177 ?_
              refine k_iload o hb dX12_add_178 4 rfl ?_
              refine k_iadd o hb dX12_add_180 ?_
              refine k_iload o hb dX12_add_181 4 rfl ?_
              refine k_aload_n o hb dX12_add_183 rfl 0 rfl ?_
              refine k_getF (C := RX12) (T := TX12) (N := 57) o hb hts in12 hown rfl (by decide) 4 (by decide) rfl (hts (.fieldLink RX12 21 "FactKeeperModel" "columns" "[I") (by decide +kernel)) (fun _ h9 => h9) dX12_add_184 h (fun v33 h => ?_)
              refine k_iload_n o hb dX12_add_187 rfl 1 rfl ?_
              refine k_iald o hb dX12_add_188 h (fun v34 h => ?_)
              refine wJoin_elim (M := fun K => ∀ (v37 : Int32) (x36 : HS), K v37 x36 → KW g 6 203 [(0, .q l0), (1, .i l1), (2, .i l2), (4, .i v18), (5, .i v22)] [.i v37, .i (((4 : Int32) * v18) + v22), .q v32] x36) h ?_ (fun j35 hj35 h => ?_)
              · skip
                intro v37 x36 h
                refine k_iast o hb dX12_add_203 h (fun x38 h => ?_)
                refine k_iinc (w := 1) o hb dX12_add_204 4 rfl (by decide) rfl ?_
                refine k_goto (tgt := 164) o hb dX12_add_207 (by decide) ?_
                exact KW.sub [1, 2, 3, 4, 0] rfl (ih20 (v22 + 1) x38 h)
              · skip
                refine k_icmp_ge (tgt := 202) o hb dX12_add_189 (by decide) h (fun h => ?_) (fun h => ?_)
                · skip
                  refine k_iconst (v := 0) o hb dX12_add_202 (by decide) ?_
                  exact KW.sub [0, 1, 2, 3, 4] rfl (hj35 0 x21 h)
                · skip
                  refine k_aload_n o hb dX12_add_192 rfl 0 rfl ?_
                  refine k_getF (C := RX12) (T := TX12) (N := 57) o hb hts in12 hown rfl (by decide) 3 (by decide) rfl (hts (.fieldLink RX12 17 "FactKeeperModel" "values" "[I") (by decide +kernel)) (fun _ h9 => h9) dX12_add_193 h (fun v39 h => ?_)
                  refine k_iload o hb dX12_add_196 4 rfl ?_
                  refine k_iald o hb dX12_add_198 h (fun v40 h => ?_)
                  refine k_goto (tgt := 203) o hb dX12_add_199 (by decide) ?_
                  exact KW.sub [0, 1, 2, 3, 4] rfl (hj35 v40 x21 h)
          · skip
            refine k_iconst (v := 0) o hb dX12_add_152 (by decide) ?_
            exact k_iret o hb B.hr fr dX12_add_153 h
        · skip
          refine k_if_eq (tgt := 131) o hb dX12_add_124 (by decide) h (fun h => ?_) (fun h => ?_)
          · skip
            refine k_aload_n o hb dX12_add_131 rfl 0 rfl ?_
            refine k_getI (C := RX12) (T := TX12) (N := 57) o hb hts in12 hown rfl (by decide) 20 (by decide) rfl (hts (.fieldLink RX12 187 "FactKeeperModel" "kept" "I") (by decide +kernel)) (fun _ h9 => h9) dX12_add_132 h (fun v41 h => ?_)
            refine k_sipush (v := 3000) o hb dX12_add_135 (by decide) ?_
            refine k_icmp_ne (tgt := 145) o hb dX12_add_138 (by decide) h (fun h => ?_) (fun h => ?_)
            · skip
              refine k_iconst (v := 4) o hb dX12_add_141 (by decide) ?_
              refine k_goto (tgt := 146) o hb dX12_add_142 (by decide) ?_
              exact KW.sub [0, 1, 2] rfl (hj12 4 x10 h)
            · skip
              refine k_iconst (v := 0) o hb dX12_add_145 (by decide) ?_
              exact KW.sub [0, 1, 2] rfl (hj12 0 x10 h)
          · skip
            refine k_iconst (v := 3) o hb dX12_add_127 (by decide) ?_
            refine k_goto (tgt := 146) o hb dX12_add_128 (by decide) ?_
            exact KW.sub [0, 1, 2] rfl (hj12 3 x10 h)
      · skip
        refine k_iconst (v := 0) o hb dX12_add_50 (by decide) ?_
        refine k_istore o hb dX12_add_51 rfl ?_
        refine KW.sub [1, 2, 3, 4, 5, 0] rfl ?_
        refine wLoop_elim (M := fun (v45 : Int32 × Int32 × Int32) (x44 : HS) => KW g 6 53 [(0, .q l0), (1, .i l1), (2, .i l2), (3, .i v45.1), (4, .i v45.2.1), (5, .i v45.2.2)] [] x44) h ?_
        intro v45 x44 again42 ih43 h
        refine k_iload o hb dX12_add_53 5 rfl ?_
        refine k_aload_n o hb dX12_add_55 rfl 0 rfl ?_
        refine k_getF (C := RX12) (T := TX12) (N := 57) o hb hts in12 hown rfl (by decide) 6 (by decide) rfl (hts (.fieldLink RX12 27 "FactKeeperModel" "keyMany" "[I") (by decide +kernel)) (fun _ h9 => h9) dX12_add_56 h (fun v46 h => ?_)
        refine k_iload_n o hb dX12_add_59 rfl 1 rfl ?_
        refine k_iald o hb dX12_add_60 h (fun v47 h => ?_)
        refine wJoin_elim (M := fun K => ∀  (x49 : HS), K  x49 → KW g 6 110 [(0, .q l0), (1, .i l1), (2, .i l2), (3, .i v45.1), (4, .i v45.2.1)] [] x49) h ?_ (fun j48 hj48 h => ?_)
        · skip
          intro  x49 h
          refine k_aload_n o hb dX12_add_110 rfl 0 rfl ?_
          refine k_getF (C := RX12) (T := TX12) (N := 57) o hb hts in12 hown rfl (by decide) 18 (by decide) rfl (hts (.fieldLink RX12 61 "FactKeeperModel" "behind" "[I") (by decide +kernel)) (fun _ h9 => h9) dX12_add_111 h (fun v50 h => ?_)
          refine k_iload o hb dX12_add_114 4 rfl ?_
          refine k_iald o hb dX12_add_116 h (fun v51 h => ?_)
          refine k_istore o hb dX12_add_117 rfl ?_
          refine k_goto (tgt := 45) o hb dX12_add_119 (by decide) ?_
          exact KW.sub [1, 2, 3, 4, 0] rfl (ih9 (v45.1, v51) x49 h)
        · skip
          refine k_icmp_ge (tgt := 110) o hb dX12_add_61 (by decide) h (fun h => ?_) (fun h => ?_)
          · skip
            exact KW.sub [0, 1, 2, 3, 4] rfl (hj48 x44 h)
          · skip
            refine k_aload_n o hb dX12_add_64 rfl 0 rfl ?_
            refine k_iload o hb dX12_add_65 4 rfl ?_
            refine k_aload_n o hb dX12_add_67 rfl 0 rfl ?_
            refine k_getI (C := RX12) (T := TX12) (N := 57) o hb hts in12 hown rfl (by decide) 22 (by decide) rfl (hts (.fieldLink RX12 150 "FactKeeperModel" "time" "I") (by decide +kernel)) (fun _ h9 => h9) dX12_add_68 h (fun v52 h => ?_)
            refine k_run_i o (fun _ _ q => q) (k_runV (ci := 12) (rc := (RX12, TX12, 57)) o hb B.hml hown hts rfl (by decide) (T_X12_isThere g.l o.hl g.D g.cA h.2) (cwV 2 hts gX12_add_X12_isThere rfl rfl rfl (by decide +kernel) ⟨yle B.hR1 rfl, yle B.hR2 rfl⟩) h.1 rfl rfl (Nat.le_of_ble_eq_true rfl) dX12_add_71) (fun v54 x53 h => ?_)
            refine k_if_eq (tgt := 110) o hb dX12_add_74 (by decide) h (fun h => ?_) (fun h => ?_)
            · skip
              exact KW.sub [0, 1, 2, 3, 4] rfl (hj48 x53 h)
            · skip
              refine k_aload_n o hb dX12_add_77 rfl 0 rfl ?_
              refine k_iload o hb dX12_add_78 4 rfl ?_
              refine k_aload_n o hb dX12_add_80 rfl 0 rfl ?_
              refine k_getF (C := RX12) (T := TX12) (N := 57) o hb hts in12 hown rfl (by decide) 9 (by decide) rfl (hts (.fieldLink RX12 36 "FactKeeperModel" "keys" "[I") (by decide +kernel)) (fun _ h9 => h9) dX12_add_81 h (fun v55 h => ?_)
              refine k_iconst (v := 3) o hb dX12_add_84 (by decide) ?_
              refine k_iload_n o hb dX12_add_85 rfl 1 rfl ?_
              refine k_imul o hb dX12_add_86 ?_
              refine k_iload o hb dX12_add_87 5 rfl ?_
              refine k_iadd o hb dX12_add_89 ?_
              refine k_iald o hb dX12_add_90 h (fun v56 h => ?_)
              refine k_aload_n o hb dX12_add_91 rfl 0 rfl ?_
              refine k_getF (C := RX12) (T := TX12) (N := 57) o hb hts in12 hown rfl (by decide) 3 (by decide) rfl (hts (.fieldLink RX12 17 "FactKeeperModel" "values" "[I") (by decide +kernel)) (fun _ h9 => h9) dX12_add_92 h (fun v57 h => ?_)
              refine k_iconst (v := 0) o hb dX12_add_95 (by decide) ?_
              refine k_run_i o (fun _ _ q => q) (k_runV (ci := 12) (rc := (RX12, TX12, 57)) o hb B.hml hown hts rfl (by decide) (T_X12_fits g.l o.hl g.D g.cA h.2) (cwV 4 hts gX12_add_X12_fits rfl rfl rfl (by decide +kernel) ⟨yle B.hR1 rfl, yle B.hR2 rfl⟩) h.1 rfl rfl (Nat.le_of_ble_eq_true rfl) dX12_add_96) (fun v59 x58 h => ?_)
              refine wJoin_elim (M := fun K => ∀ (v62 : Int32) (x61 : HS), K v62 x61 → KW g 6 104 [(0, .q l0), (1, .i l1), (2, .i l2), (3, .i v62), (4, .i v45.2.1), (5, .i v45.2.2)] [] x61) h ?_ (fun j60 hj60 h => ?_)
              · skip
                intro v62 x61 h
                refine k_iinc (w := 1) o hb dX12_add_104 5 rfl (by decide) rfl ?_
                refine k_goto (tgt := 53) o hb dX12_add_107 (by decide) ?_
                exact KW.sub [1, 2, 3, 4, 5, 0] rfl (ih43 (v62, v45.2.1, (v45.2.2 + 1)) x61 h)
              · skip
                refine k_if_eq (tgt := 104) o hb dX12_add_99 (by decide) h (fun h => ?_) (fun h => ?_)
                · skip
                  exact KW.sub [0, 1, 2, 3, 4, 5] rfl (hj60 v45.1 x58 h)
                · skip
                  refine k_iconst (v := 1) o hb dX12_add_102 (by decide) ?_
                  refine k_istore_n o hb dX12_add_103 rfl rfl ?_
                  exact KW.sub [1, 2, 3, 0, 4, 5] rfl (hj60 1 x58 h)
    · skip
      refine k_iconst (v := 0) o hb dX12_add_33 (by decide) ?_
      exact k_iret o hb B.hr fr dX12_add_34 h
  · skip
    refine wJoin_elim (M := fun K => ∀  (x64 : HS), K  x64 → KW g 6 10 [(0, .q l0), (1, .i l1), (2, .i l2)] [.q l0] x64) h ?_ (fun j63 hj63 h => ?_)
    · skip
      intro  x64 h
      refine k_iconst (v := 1) o hb dX12_add_10 (by decide) ?_
      refine k_goto (tgt := 27) o hb dX12_add_11 (by decide) ?_
      exact KW.sub [0, 1, 2] rfl (hj1 1 x64 h)
    · skip
      refine k_if_lt (tgt := 10) o hb dX12_add_2 (by decide) h (fun h => ?_) (fun h => ?_)
      · skip
        exact KW.sub [0, 1, 2] rfl (hj63 x h)
      · skip
        refine k_iload_n o hb dX12_add_5 rfl 2 rfl ?_
        refine k_iconst (v := 1) o hb dX12_add_6 (by decide) ?_
        refine k_icmp_le (tgt := 14) o hb dX12_add_7 (by decide) h (fun h => ?_) (fun h => ?_)
        · skip
          refine k_aload_n o hb dX12_add_14 rfl 0 rfl ?_
          refine k_iload_n o hb dX12_add_15 rfl 1 rfl ?_
          refine k_run_i o (fun _ _ q => q) (k_runV (ci := 12) (rc := (RX12, TX12, 57)) o hb B.hml hown hts rfl (by decide) (T_X12_isTable g.l o.hl g.D g.cA h.2) (cwV 1 hts gX12_add_X12_isTable rfl rfl rfl (by decide +kernel) ⟨yle B.hR1 rfl, yle B.hR2 rfl⟩) h.1 rfl rfl (Nat.le_of_ble_eq_true rfl) dX12_add_16) (fun v66 x65 h => ?_)
          refine k_if_ne (tgt := 26) o hb dX12_add_19 (by decide) h (fun h => ?_) (fun h => ?_)
          · skip
            refine k_iconst (v := 2) o hb dX12_add_22 (by decide) ?_
            refine k_goto (tgt := 27) o hb dX12_add_23 (by decide) ?_
            exact KW.sub [0, 1, 2] rfl (hj1 2 x65 h)
          · skip
            refine k_iconst (v := 0) o hb dX12_add_26 (by decide) ?_
            exact KW.sub [0, 1, 2] rfl (hj1 0 x65 h)
        · skip
          exact KW.sub [0, 1, 2] rfl (hj63 x h)
theorem dX12_remove_0 : decode cX12_remove 0 = .ok (.aload_n 0, 1) := by decide +kernel
theorem dX12_remove_1 : decode cX12_remove 1 = .ok (.aload_n 0, 1) := by decide +kernel
theorem dX12_remove_2 : decode cX12_remove 2 = .ok (.iload_n 2, 1) := by decide +kernel
theorem dX12_remove_3 : decode cX12_remove 3 = .ok (.invokevirtual 207, 3) := by decide +kernel
theorem dX12_remove_6 : decode cX12_remove 6 = .ok (.ifCond .eq 12, 3) := by decide +kernel
theorem dX12_remove_9 : decode cX12_remove 9 = .ok (.iload_n 3, 1) := by decide +kernel
theorem dX12_remove_10 : decode cX12_remove 10 = .ok (.ifCond .lt 8, 3) := by decide +kernel
theorem dX12_remove_13 : decode cX12_remove 13 = .ok (.iload_n 3, 1) := by decide +kernel
theorem dX12_remove_14 : decode cX12_remove 14 = .ok (.iconst 1, 1) := by decide +kernel
theorem dX12_remove_15 : decode cX12_remove 15 = .ok (.if_icmp .le 7, 3) := by decide +kernel
theorem dX12_remove_18 : decode cX12_remove 18 = .ok (.iconst 1, 1) := by decide +kernel
theorem dX12_remove_19 : decode cX12_remove 19 = .ok (.goto 16, 3) := by decide +kernel
theorem dX12_remove_22 : decode cX12_remove 22 = .ok (.aload_n 0, 1) := by decide +kernel
theorem dX12_remove_23 : decode cX12_remove 23 = .ok (.iload_n 1, 1) := by decide +kernel
theorem dX12_remove_24 : decode cX12_remove 24 = .ok (.invokevirtual 153, 3) := by decide +kernel
theorem dX12_remove_27 : decode cX12_remove 27 = .ok (.ifCond .ne 7, 3) := by decide +kernel
theorem dX12_remove_30 : decode cX12_remove 30 = .ok (.iconst 2, 1) := by decide +kernel
theorem dX12_remove_31 : decode cX12_remove 31 = .ok (.goto 4, 3) := by decide +kernel
theorem dX12_remove_34 : decode cX12_remove 34 = .ok (.iconst 0, 1) := by decide +kernel
theorem dX12_remove_35 : decode cX12_remove 35 = .ok (.invokevirtual 136, 3) := by decide +kernel
theorem dX12_remove_38 : decode cX12_remove 38 = .ok (.ifCond .eq 5, 3) := by decide +kernel
theorem dX12_remove_41 : decode cX12_remove 41 = .ok (.iconst 0, 1) := by decide +kernel
theorem dX12_remove_42 : decode cX12_remove 42 = .ok (.ireturn, 1) := by decide +kernel
theorem dX12_remove_43 : decode cX12_remove 43 = .ok (.aload_n 0, 1) := by decide +kernel
theorem dX12_remove_44 : decode cX12_remove 44 = .ok (.iconst 0, 1) := by decide +kernel
theorem dX12_remove_45 : decode cX12_remove 45 = .ok (.putfield 168, 3) := by decide +kernel
theorem dX12_remove_48 : decode cX12_remove 48 = .ok (.iconst 0, 1) := by decide +kernel
theorem dX12_remove_49 : decode cX12_remove 49 = .ok (.istore 4, 2) := by decide +kernel
theorem dX12_remove_51 : decode cX12_remove 51 = .ok (.aload_n 0, 1) := by decide +kernel
theorem dX12_remove_52 : decode cX12_remove 52 = .ok (.iload_n 1, 1) := by decide +kernel
theorem dX12_remove_53 : decode cX12_remove 53 = .ok (.aload_n 0, 1) := by decide +kernel
theorem dX12_remove_54 : decode cX12_remove 54 = .ok (.getfield 30, 3) := by decide +kernel
theorem dX12_remove_57 : decode cX12_remove 57 = .ok (.iload_n 1, 1) := by decide +kernel
theorem dX12_remove_58 : decode cX12_remove 58 = .ok (.iaload, 1) := by decide +kernel
theorem dX12_remove_59 : decode cX12_remove 59 = .ok (.iload_n 2, 1) := by decide +kernel
theorem dX12_remove_60 : decode cX12_remove 60 = .ok (.aload_n 0, 1) := by decide +kernel
theorem dX12_remove_61 : decode cX12_remove 61 = .ok (.getfield 150, 3) := by decide +kernel
theorem dX12_remove_64 : decode cX12_remove 64 = .ok (.aload_n 0, 1) := by decide +kernel
theorem dX12_remove_65 : decode cX12_remove 65 = .ok (.getfield 17, 3) := by decide +kernel
theorem dX12_remove_68 : decode cX12_remove 68 = .ok (.iconst 0, 1) := by decide +kernel
theorem dX12_remove_69 : decode cX12_remove 69 = .ok (.invokevirtual 210, 3) := by decide +kernel
theorem dX12_remove_72 : decode cX12_remove 72 = .ok (.istore 5, 2) := by decide +kernel
theorem dX12_remove_74 : decode cX12_remove 74 = .ok (.iload_n 3, 1) := by decide +kernel
theorem dX12_remove_75 : decode cX12_remove 75 = .ok (.ifCond .ne 24, 3) := by decide +kernel
theorem dX12_remove_78 : decode cX12_remove 78 = .ok (.iload 5, 2) := by decide +kernel
theorem dX12_remove_80 : decode cX12_remove 80 = .ok (.ifCond .ge 5, 3) := by decide +kernel
theorem dX12_remove_83 : decode cX12_remove 83 = .ok (.iconst (-1), 1) := by decide +kernel
theorem dX12_remove_84 : decode cX12_remove 84 = .ok (.ireturn, 1) := by decide +kernel
theorem dX12_remove_85 : decode cX12_remove 85 = .ok (.aload_n 0, 1) := by decide +kernel
theorem dX12_remove_86 : decode cX12_remove 86 = .ok (.iload 5, 2) := by decide +kernel
theorem dX12_remove_88 : decode cX12_remove 88 = .ok (.invokevirtual 214, 3) := by decide +kernel
theorem dX12_remove_91 : decode cX12_remove 91 = .ok (.aload_n 0, 1) := by decide +kernel
theorem dX12_remove_92 : decode cX12_remove 92 = .ok (.getfield 49, 3) := by decide +kernel
theorem dX12_remove_95 : decode cX12_remove 95 = .ok (.iload 5, 2) := by decide +kernel
theorem dX12_remove_97 : decode cX12_remove 97 = .ok (.iaload, 1) := by decide +kernel
theorem dX12_remove_98 : decode cX12_remove 98 = .ok (.ireturn, 1) := by decide +kernel
theorem dX12_remove_99 : decode cX12_remove 99 = .ok (.iload 5, 2) := by decide +kernel
theorem dX12_remove_101 : decode cX12_remove 101 = .ok (.ifCond .lt 39, 3) := by decide +kernel
theorem dX12_remove_104 : decode cX12_remove 104 = .ok (.aload_n 0, 1) := by decide +kernel
theorem dX12_remove_105 : decode cX12_remove 105 = .ok (.iload 5, 2) := by decide +kernel
theorem dX12_remove_107 : decode cX12_remove 107 = .ok (.invokevirtual 214, 3) := by decide +kernel
theorem dX12_remove_110 : decode cX12_remove 110 = .ok (.iinc 4 1, 3) := by decide +kernel
theorem dX12_remove_113 : decode cX12_remove 113 = .ok (.aload_n 0, 1) := by decide +kernel
theorem dX12_remove_114 : decode cX12_remove 114 = .ok (.iload_n 1, 1) := by decide +kernel
theorem dX12_remove_115 : decode cX12_remove 115 = .ok (.aload_n 0, 1) := by decide +kernel
theorem dX12_remove_116 : decode cX12_remove 116 = .ok (.getfield 61, 3) := by decide +kernel
theorem dX12_remove_119 : decode cX12_remove 119 = .ok (.iload 5, 2) := by decide +kernel
theorem dX12_remove_121 : decode cX12_remove 121 = .ok (.iaload, 1) := by decide +kernel
theorem dX12_remove_122 : decode cX12_remove 122 = .ok (.iload_n 2, 1) := by decide +kernel
theorem dX12_remove_123 : decode cX12_remove 123 = .ok (.aload_n 0, 1) := by decide +kernel
theorem dX12_remove_124 : decode cX12_remove 124 = .ok (.getfield 150, 3) := by decide +kernel
theorem dX12_remove_127 : decode cX12_remove 127 = .ok (.aload_n 0, 1) := by decide +kernel
theorem dX12_remove_128 : decode cX12_remove 128 = .ok (.getfield 17, 3) := by decide +kernel
theorem dX12_remove_131 : decode cX12_remove 131 = .ok (.iconst 0, 1) := by decide +kernel
theorem dX12_remove_132 : decode cX12_remove 132 = .ok (.invokevirtual 210, 3) := by decide +kernel
theorem dX12_remove_135 : decode cX12_remove 135 = .ok (.istore 5, 2) := by decide +kernel
theorem dX12_remove_137 : decode cX12_remove 137 = .ok (.goto (-38), 3) := by decide +kernel
theorem dX12_remove_140 : decode cX12_remove 140 = .ok (.iload 4, 2) := by decide +kernel
theorem dX12_remove_142 : decode cX12_remove 142 = .ok (.ireturn, 1) := by decide +kernel
theorem i9wsX12_remove_0 : ∀ w ∈ wsX12_remove_r1, w ∈ wsX12_remove := fun _ h => (List.mem_cons_of_mem _ (List.mem_append_left _ (List.mem_append_left _ h)))
set_option maxRecDepth 20000 in
theorem ggX12_remove_X12_isMask : GoodIn wsX12_remove wsX12_isMask := (gin_c (mem_at i9wsX12_remove_0 10 rfl) rfl gin_n)
set_option maxRecDepth 20000 in
theorem gX12_remove_X12_isMask : GoodIn wsX12_remove (wsV RX12 207 RX12 yX12_isMask wsX12_isMask) := goodIn_app (gin_c (mem_at i9wsX12_remove_0 6 rfl) rfl (gin_c (mem_at i9wsX12_remove_0 7 rfl) rfl (gin_c (mem_at i9wsX12_remove_0 8 rfl) rfl (gin_c (mem_at i9wsX12_remove_0 9 rfl) rfl gin_n)))) ggX12_remove_X12_isMask
theorem i9wsX12_remove_3 : ∀ w ∈ wsX120, w ∈ wsX12_remove := fun _ h => (List.mem_cons_of_mem _ (List.mem_append_right _ h))
set_option maxRecDepth 20000 in
theorem ggX12_remove_X12_isTable : GoodIn wsX12_remove wsX12_isTable := (gin_c (mem_at i9wsX12_remove_0 14 rfl) rfl (goodIn_app (gin_c (mem_at i9wsX12_remove_0 15 rfl) rfl gin_n) (goodIn_sub i9wsX12_remove_3 g9_16)))
set_option maxRecDepth 20000 in
theorem gX12_remove_X12_isTable : GoodIn wsX12_remove (wsV RX12 153 RX12 yX12_isTable wsX12_isTable) := goodIn_app (gin_c (mem_at i9wsX12_remove_0 11 rfl) rfl (gin_c (mem_at i9wsX12_remove_0 12 rfl) rfl (gin_c (mem_at i9wsX12_remove_0 13 rfl) rfl (gin_c (mem_at i9wsX12_remove_0 9 rfl) rfl gin_n)))) ggX12_remove_X12_isTable
set_option maxRecDepth 20000 in
theorem ggX12_remove_X12_fails : GoodIn wsX12_remove wsX12_fails := (gin_c (mem_at i9wsX12_remove_0 19 rfl) rfl (goodIn_app (gin_c (mem_at i9wsX12_remove_0 20 rfl) rfl gin_n) (goodIn_sub i9wsX12_remove_3 g9_16)))
set_option maxRecDepth 20000 in
theorem gX12_remove_X12_fails : GoodIn wsX12_remove (wsV RX12 136 RX12 yX12_fails wsX12_fails) := goodIn_app (gin_c (mem_at i9wsX12_remove_0 16 rfl) rfl (gin_c (mem_at i9wsX12_remove_0 17 rfl) rfl (gin_c (mem_at i9wsX12_remove_0 18 rfl) rfl (gin_c (mem_at i9wsX12_remove_0 9 rfl) rfl gin_n)))) ggX12_remove_X12_fails
theorem i9wsX12_remove_1 : ∀ w ∈ wsX12_remove_r2, w ∈ wsX12_remove := fun _ h => (List.mem_cons_of_mem _ (List.mem_append_left _ (List.mem_append_right _ (List.mem_append_left _ h))))
set_option maxRecDepth 20000 in
theorem ggX12_remove_X12_seek : GoodIn wsX12_remove wsX12_seek := (gin_c (mem_at i9wsX12_remove_1 0 rfl) rfl (goodIn_app (gin_c (mem_at i9wsX12_remove_1 1 rfl) rfl (gin_c (mem_at i9wsX12_remove_0 0 rfl) rfl (gin_c (mem_at i9wsX12_remove_1 2 rfl) rfl (gin_c (mem_at i9wsX12_remove_1 3 rfl) rfl (gin_c (mem_at i9wsX12_remove_0 5 rfl) rfl (gin_c (mem_at i9wsX12_remove_1 4 rfl) rfl (gin_c (mem_at i9wsX12_remove_1 5 rfl) rfl (gin_c (mem_at i9wsX12_remove_1 6 rfl) rfl (gin_c (mem_at i9wsX12_remove_0 9 rfl) rfl (gin_c (mem_at i9wsX12_remove_1 7 rfl) rfl (gin_c (mem_at i9wsX12_remove_1 8 rfl) rfl (gin_c (mem_at i9wsX12_remove_1 9 rfl) rfl (gin_c (mem_at i9wsX12_remove_1 10 rfl) rfl (gin_c (mem_at i9wsX12_remove_1 11 rfl) rfl (gin_c (mem_at i9wsX12_remove_1 12 rfl) rfl (gin_c (mem_at i9wsX12_remove_1 13 rfl) rfl (gin_c (mem_at i9wsX12_remove_1 14 rfl) rfl (gin_c (mem_at i9wsX12_remove_1 15 rfl) rfl (gin_c (mem_at i9wsX12_remove_1 16 rfl) rfl (gin_c (mem_at i9wsX12_remove_1 17 rfl) rfl (gin_c (mem_at i9wsX12_remove_1 18 rfl) rfl (gin_c (mem_at i9wsX12_remove_1 19 rfl) rfl (gin_c (mem_at i9wsX12_remove_1 20 rfl) rfl gin_n))))))))))))))))))))))) (goodIn_sub i9wsX12_remove_3 g9_16)))
set_option maxRecDepth 20000 in
theorem gX12_remove_X12_seek : GoodIn wsX12_remove (wsV RX12 210 RX12 yX12_seek wsX12_seek) := goodIn_app (gin_c (mem_at i9wsX12_remove_0 21 rfl) rfl (gin_c (mem_at i9wsX12_remove_0 22 rfl) rfl (gin_c (mem_at i9wsX12_remove_0 23 rfl) rfl (gin_c (mem_at i9wsX12_remove_0 9 rfl) rfl gin_n)))) ggX12_remove_X12_seek
theorem i9wsX12_remove_2 : ∀ w ∈ wsX12_remove_r3, w ∈ wsX12_remove := fun _ h => (List.mem_cons_of_mem _ (List.mem_append_left _ (List.mem_append_right _ (List.mem_append_right _ h))))
set_option maxRecDepth 20000 in
theorem ggX12_remove_X12_go : GoodIn wsX12_remove wsX12_go := (gin_c (mem_at i9wsX12_remove_2 0 rfl) rfl (goodIn_app (gin_c (mem_at i9wsX12_remove_0 2 rfl) rfl (gin_c (mem_at i9wsX12_remove_1 15 rfl) rfl (gin_c (mem_at i9wsX12_remove_2 1 rfl) rfl (gin_c (mem_at i9wsX12_remove_2 2 rfl) rfl (gin_c (mem_at i9wsX12_remove_2 3 rfl) rfl (gin_c (mem_at i9wsX12_remove_0 9 rfl) rfl (gin_c (mem_at i9wsX12_remove_2 4 rfl) rfl (gin_c (mem_at i9wsX12_remove_2 5 rfl) rfl (gin_c (mem_at i9wsX12_remove_2 6 rfl) rfl (gin_c (mem_at i9wsX12_remove_2 7 rfl) rfl gin_n)))))))))) (goodIn_sub i9wsX12_remove_3 g9_16)))
set_option maxRecDepth 20000 in
theorem gX12_remove_X12_go : GoodIn wsX12_remove (wsV RX12 214 RX12 yX12_go wsX12_go) := goodIn_app (gin_c (mem_at i9wsX12_remove_1 21 rfl) rfl (gin_c (mem_at i9wsX12_remove_1 22 rfl) rfl (gin_c (mem_at i9wsX12_remove_1 23 rfl) rfl (gin_c (mem_at i9wsX12_remove_0 9 rfl) rfl gin_n)))) ggX12_remove_X12_go
set_option maxHeartbeats 4000000 in
set_option maxRecDepth 100000 in
theorem T_X12_remove (l : Launch) (hl : l.stackTraces = false) (D : va_G) (cA : Nat → ClassId) {l0 : Option Nat} {l1 : Int32} {l2 : Int32} {l3 : Int32} {x : HS} {Q : Int32 → HS → Prop} {X : String → HS → Prop} (h : w_X12_remove l0 l1 l2 l3 x Q X) : YI l yX12_remove wsX12_remove 2 54 D cA [.q l0, .i l1, .i l2, .i l3] x Q X := by
  refine YI.of (cc := cX12_remove) (maxL := 6) (ret := (some .int)) hl (by decide) rfl rfl (fun g B fr => ?_)
  have o := B.o
  have hb := B.hb
  have hts := B.hts
  have hown : g.s.vm.findClass RX12 = some g.m.cls := B.hown
  have in12 : ∀ w ∈ u_ws RX12 TX12 57, w ∈ wsX12_remove := fun w h => (List.mem_cons_of_mem _ (List.mem_append_right _ h))
  unfold w_X12_remove at h
  show KW g 6 0 [(0, .q l0), (1, .i l1), (2, .i l2), (3, .i l3)] [] x
  refine k_aload_n o hb dX12_remove_0 rfl 0 rfl ?_
  refine k_aload_n o hb dX12_remove_1 rfl 0 rfl ?_
  refine k_iload_n o hb dX12_remove_2 rfl 2 rfl ?_
  refine k_run_i o (fun _ _ q => q) (k_runV (ci := 12) (rc := (RX12, TX12, 57)) o hb B.hml hown hts rfl (by decide) (T_X12_isMask g.l o.hl g.D g.cA h.2) (cwV 1 hts gX12_remove_X12_isMask rfl rfl rfl (by decide +kernel) ⟨yle B.hR1 rfl, yle B.hR2 rfl⟩) h.1 rfl rfl (Nat.le_of_ble_eq_true rfl) dX12_remove_3) (fun v2 x1 h => ?_)
  refine wJoin_elim (M := fun K => ∀ (v5 : Int32) (x4 : HS), K v5 x4 → KW g 6 35 [(0, .q l0), (1, .i l1), (2, .i l2), (3, .i l3)] [.i v5, .q l0] x4) h ?_ (fun j3 hj3 h => ?_)
  · skip
    intro v5 x4 h
    refine k_run_i o (fun _ _ q => q) (k_runV (ci := 12) (rc := (RX12, TX12, 57)) o hb B.hml hown hts rfl (by decide) (T_X12_fails g.l o.hl g.D g.cA h.2) (cwV 1 hts gX12_remove_X12_fails rfl rfl rfl (by decide +kernel) ⟨yle B.hR1 rfl, yle B.hR2 rfl⟩) h.1 rfl rfl (Nat.le_of_ble_eq_true rfl) dX12_remove_35) (fun v7 x6 h => ?_)
    refine k_if_eq (tgt := 43) o hb dX12_remove_38 (by decide) h (fun h => ?_) (fun h => ?_)
    · skip
      refine k_aload_n o hb dX12_remove_43 rfl 0 rfl ?_
      refine k_iconst (v := 0) o hb dX12_remove_44 (by decide) ?_
      refine k_putI (C := RX12) (T := TX12) (N := 57) (ty := .int) o hb hts in12 tyX12 tyX12_ok nmX12 hown rfl (by decide) 38 (by decide) rfl (hts (.fieldLink RX12 168 "FactKeeperModel" "looked" "I") (by decide +kernel)) (fun _ h9 => h9) rfl (by decide +kernel) (fun _ => rfl) (fun _ => rfl) dX12_remove_45 h (fun x8 h => ?_)
      refine k_iconst (v := 0) o hb dX12_remove_48 (by decide) ?_
      refine k_istore o hb dX12_remove_49 rfl ?_
      refine k_aload_n o hb dX12_remove_51 rfl 1 rfl ?_
      refine k_iload_n o hb dX12_remove_52 rfl 2 rfl ?_
      refine k_aload_n o hb dX12_remove_53 rfl 1 rfl ?_
      refine k_getF (C := RX12) (T := TX12) (N := 57) o hb hts in12 hown rfl (by decide) 7 (by decide) rfl (hts (.fieldLink RX12 30 "FactKeeperModel" "first" "[I") (by decide +kernel)) (fun _ h9 => h9) dX12_remove_54 h (fun v9 h => ?_)
      refine k_iload_n o hb dX12_remove_57 rfl 2 rfl ?_
      refine k_iald o hb dX12_remove_58 h (fun v10 h => ?_)
      refine k_iload_n o hb dX12_remove_59 rfl 3 rfl ?_
      refine k_aload_n o hb dX12_remove_60 rfl 1 rfl ?_
      refine k_getI (C := RX12) (T := TX12) (N := 57) o hb hts in12 hown rfl (by decide) 22 (by decide) rfl (hts (.fieldLink RX12 150 "FactKeeperModel" "time" "I") (by decide +kernel)) (fun _ h9 => h9) dX12_remove_61 h (fun v11 h => ?_)
      refine k_aload_n o hb dX12_remove_64 rfl 1 rfl ?_
      refine k_getF (C := RX12) (T := TX12) (N := 57) o hb hts in12 hown rfl (by decide) 3 (by decide) rfl (hts (.fieldLink RX12 17 "FactKeeperModel" "values" "[I") (by decide +kernel)) (fun _ h9 => h9) dX12_remove_65 h (fun v12 h => ?_)
      refine k_iconst (v := 0) o hb dX12_remove_68 (by decide) ?_
      refine k_run_i o (fun _ _ q => q) (k_runV (ci := 12) (rc := (RX12, TX12, 57)) o hb B.hml hown hts rfl (by decide) (T_X12_seek g.l o.hl g.D g.cA h.2) (cwV 6 hts gX12_remove_X12_seek rfl rfl rfl (by decide +kernel) ⟨yle B.hR1 rfl, yle B.hR2 rfl⟩) h.1 rfl rfl (Nat.le_of_ble_eq_true rfl) dX12_remove_69) (fun v14 x13 h => ?_)
      refine k_istore o hb dX12_remove_72 rfl ?_
      refine k_iload_n o hb dX12_remove_74 rfl 5 rfl ?_
      refine k_if_ne (tgt := 99) o hb dX12_remove_75 (by decide) h (fun h => ?_) (fun h => ?_)
      · skip
        refine k_iload o hb dX12_remove_78 0 rfl ?_
        refine k_if_ge (tgt := 85) o hb dX12_remove_80 (by decide) h (fun h => ?_) (fun h => ?_)
        · skip
          refine k_aload_n o hb dX12_remove_85 rfl 2 rfl ?_
          refine k_iload o hb dX12_remove_86 0 rfl ?_
          refine k_run_v o (fun _ _ q => q) (k_runV (ci := 12) (rc := (RX12, TX12, 57)) o hb B.hml hown hts rfl (by decide) (T_X12_go g.l o.hl g.D g.cA h.2) (cwV 1 hts gX12_remove_X12_go rfl rfl rfl (by decide +kernel) ⟨yle B.hR1 rfl, yle B.hR2 rfl⟩) h.1 rfl rfl (Nat.le_of_ble_eq_true rfl) dX12_remove_88) (fun x15 h => ?_)
          refine k_aload_n o hb dX12_remove_91 rfl 2 rfl ?_
          refine k_getF (C := RX12) (T := TX12) (N := 57) o hb hts in12 hown rfl (by decide) 14 (by decide) rfl (hts (.fieldLink RX12 49 "FactKeeperModel" "number" "[I") (by decide +kernel)) (fun _ h9 => h9) dX12_remove_92 h (fun v17 h => ?_)
          refine k_iload o hb dX12_remove_95 0 rfl ?_
          refine k_iald o hb dX12_remove_97 h (fun v18 h => ?_)
          exact k_iret o hb B.hr fr dX12_remove_98 h
        · skip
          refine k_iconst (v := (-1)) o hb dX12_remove_83 (by decide) ?_
          exact k_iret o hb B.hr fr dX12_remove_84 h
      · skip
        refine KW.sub [2, 3, 4, 1, 0] rfl ?_
        refine wLoop_elim (M := fun (v22 : Int32 × Int32) (x21 : HS) => KW g 6 99 [(0, .q l0), (1, .i l1), (2, .i l2), (4, .i v22.1), (5, .i v22.2)] [] x21) h ?_
        intro v22 x21 again19 ih20 h
        refine k_iload o hb dX12_remove_99 4 rfl ?_
        refine k_if_lt (tgt := 140) o hb dX12_remove_101 (by decide) h (fun h => ?_) (fun h => ?_)
        · skip
          refine k_iload o hb dX12_remove_140 3 rfl ?_
          exact k_iret o hb B.hr fr dX12_remove_142 h
        · skip
          refine k_aload_n o hb dX12_remove_104 rfl 0 rfl ?_
          refine k_iload o hb dX12_remove_105 4 rfl ?_
          refine k_run_v o (fun _ _ q => q) (k_runV (ci := 12) (rc := (RX12, TX12, 57)) o hb B.hml hown hts rfl (by decide) (T_X12_go g.l o.hl g.D g.cA h.2) (cwV 1 hts gX12_remove_X12_go rfl rfl rfl (by decide +kernel) ⟨yle B.hR1 rfl, yle B.hR2 rfl⟩) h.1 rfl rfl (Nat.le_of_ble_eq_true rfl) dX12_remove_107) (fun x23 h => ?_)
          refine k_iinc (w := 1) o hb dX12_remove_110 3 rfl (by decide) rfl ?_
          refine k_aload_n o hb dX12_remove_113 rfl 1 rfl ?_
          refine k_iload_n o hb dX12_remove_114 rfl 2 rfl ?_
          refine k_aload_n o hb dX12_remove_115 rfl 1 rfl ?_
          refine k_getF (C := RX12) (T := TX12) (N := 57) o hb hts in12 hown rfl (by decide) 18 (by decide) rfl (hts (.fieldLink RX12 61 "FactKeeperModel" "behind" "[I") (by decide +kernel)) (fun _ h9 => h9) dX12_remove_116 h (fun v25 h => ?_)
          refine k_iload o hb dX12_remove_119 4 rfl ?_
          refine k_iald o hb dX12_remove_121 h (fun v26 h => ?_)
          refine k_iload_n o hb dX12_remove_122 rfl 3 rfl ?_
          refine k_aload_n o hb dX12_remove_123 rfl 1 rfl ?_
          refine k_getI (C := RX12) (T := TX12) (N := 57) o hb hts in12 hown rfl (by decide) 22 (by decide) rfl (hts (.fieldLink RX12 150 "FactKeeperModel" "time" "I") (by decide +kernel)) (fun _ h9 => h9) dX12_remove_124 h (fun v27 h => ?_)
          refine k_aload_n o hb dX12_remove_127 rfl 1 rfl ?_
          refine k_getF (C := RX12) (T := TX12) (N := 57) o hb hts in12 hown rfl (by decide) 3 (by decide) rfl (hts (.fieldLink RX12 17 "FactKeeperModel" "values" "[I") (by decide +kernel)) (fun _ h9 => h9) dX12_remove_128 h (fun v28 h => ?_)
          refine k_iconst (v := 0) o hb dX12_remove_131 (by decide) ?_
          refine k_run_i o (fun _ _ q => q) (k_runV (ci := 12) (rc := (RX12, TX12, 57)) o hb B.hml hown hts rfl (by decide) (T_X12_seek g.l o.hl g.D g.cA h.2) (cwV 6 hts gX12_remove_X12_seek rfl rfl rfl (by decide +kernel) ⟨yle B.hR1 rfl, yle B.hR2 rfl⟩) h.1 rfl rfl (Nat.le_of_ble_eq_true rfl) dX12_remove_132) (fun v30 x29 h => ?_)
          refine k_istore o hb dX12_remove_135 rfl ?_
          refine k_goto (tgt := 99) o hb dX12_remove_137 (by decide) ?_
          exact KW.sub [2, 3, 4, 1, 0] rfl (ih20 ((v22.1 + 1), v30) x29 h)
    · skip
      refine k_iconst (v := 0) o hb dX12_remove_41 (by decide) ?_
      exact k_iret o hb B.hr fr dX12_remove_42 h
  · skip
    refine wJoin_elim (M := fun K => ∀  (x32 : HS), K  x32 → KW g 6 18 [(0, .q l0), (1, .i l1), (2, .i l2), (3, .i l3)] [.q l0] x32) h ?_ (fun j31 hj31 h => ?_)
    · skip
      intro  x32 h
      refine k_iconst (v := 1) o hb dX12_remove_18 (by decide) ?_
      refine k_goto (tgt := 35) o hb dX12_remove_19 (by decide) ?_
      exact KW.sub [0, 1, 2, 3] rfl (hj3 1 x32 h)
    · skip
      refine k_if_eq (tgt := 18) o hb dX12_remove_6 (by decide) h (fun h => ?_) (fun h => ?_)
      · skip
        exact KW.sub [0, 1, 2, 3] rfl (hj31 x1 h)
      · skip
        refine k_iload_n o hb dX12_remove_9 rfl 3 rfl ?_
        refine k_if_lt (tgt := 18) o hb dX12_remove_10 (by decide) h (fun h => ?_) (fun h => ?_)
        · skip
          exact KW.sub [0, 1, 2, 3] rfl (hj31 x1 h)
        · skip
          refine k_iload_n o hb dX12_remove_13 rfl 3 rfl ?_
          refine k_iconst (v := 1) o hb dX12_remove_14 (by decide) ?_
          refine k_icmp_le (tgt := 22) o hb dX12_remove_15 (by decide) h (fun h => ?_) (fun h => ?_)
          · skip
            refine k_aload_n o hb dX12_remove_22 rfl 0 rfl ?_
            refine k_iload_n o hb dX12_remove_23 rfl 1 rfl ?_
            refine k_run_i o (fun _ _ q => q) (k_runV (ci := 12) (rc := (RX12, TX12, 57)) o hb B.hml hown hts rfl (by decide) (T_X12_isTable g.l o.hl g.D g.cA h.2) (cwV 1 hts gX12_remove_X12_isTable rfl rfl rfl (by decide +kernel) ⟨yle B.hR1 rfl, yle B.hR2 rfl⟩) h.1 rfl rfl (Nat.le_of_ble_eq_true rfl) dX12_remove_24) (fun v34 x33 h => ?_)
            refine k_if_ne (tgt := 34) o hb dX12_remove_27 (by decide) h (fun h => ?_) (fun h => ?_)
            · skip
              refine k_iconst (v := 2) o hb dX12_remove_30 (by decide) ?_
              refine k_goto (tgt := 35) o hb dX12_remove_31 (by decide) ?_
              exact KW.sub [0, 1, 2, 3] rfl (hj3 2 x33 h)
            · skip
              refine k_iconst (v := 0) o hb dX12_remove_34 (by decide) ?_
              exact KW.sub [0, 1, 2, 3] rfl (hj3 0 x33 h)
          · skip
            exact KW.sub [0, 1, 2, 3] rfl (hj31 x1 h)
theorem dX12_find_0 : decode cX12_find 0 = .ok (.aload_n 0, 1) := by decide +kernel
theorem dX12_find_1 : decode cX12_find 1 = .ok (.aload_n 0, 1) := by decide +kernel
theorem dX12_find_2 : decode cX12_find 2 = .ok (.iload_n 2, 1) := by decide +kernel
theorem dX12_find_3 : decode cX12_find 3 = .ok (.invokevirtual 207, 3) := by decide +kernel
theorem dX12_find_6 : decode cX12_find 6 = .ok (.ifCond .eq 11, 3) := by decide +kernel
theorem dX12_find_9 : decode cX12_find 9 = .ok (.aload_n 0, 1) := by decide +kernel
theorem dX12_find_10 : decode cX12_find 10 = .ok (.iload_n 3, 1) := by decide +kernel
theorem dX12_find_11 : decode cX12_find 11 = .ok (.invokevirtual 217, 3) := by decide +kernel
theorem dX12_find_14 : decode cX12_find 14 = .ok (.ifCond .ne 7, 3) := by decide +kernel
theorem dX12_find_17 : decode cX12_find 17 = .ok (.iconst 1, 1) := by decide +kernel
theorem dX12_find_18 : decode cX12_find 18 = .ok (.goto 16, 3) := by decide +kernel
theorem dX12_find_21 : decode cX12_find 21 = .ok (.aload_n 0, 1) := by decide +kernel
theorem dX12_find_22 : decode cX12_find 22 = .ok (.iload_n 1, 1) := by decide +kernel
theorem dX12_find_23 : decode cX12_find 23 = .ok (.invokevirtual 153, 3) := by decide +kernel
theorem dX12_find_26 : decode cX12_find 26 = .ok (.ifCond .ne 7, 3) := by decide +kernel
theorem dX12_find_29 : decode cX12_find 29 = .ok (.iconst 2, 1) := by decide +kernel
theorem dX12_find_30 : decode cX12_find 30 = .ok (.goto 4, 3) := by decide +kernel
theorem dX12_find_33 : decode cX12_find 33 = .ok (.iconst 0, 1) := by decide +kernel
theorem dX12_find_34 : decode cX12_find 34 = .ok (.invokevirtual 136, 3) := by decide +kernel
theorem dX12_find_37 : decode cX12_find 37 = .ok (.ifCond .eq 5, 3) := by decide +kernel
theorem dX12_find_40 : decode cX12_find 40 = .ok (.iconst 0, 1) := by decide +kernel
theorem dX12_find_41 : decode cX12_find 41 = .ok (.ireturn, 1) := by decide +kernel
theorem dX12_find_42 : decode cX12_find 42 = .ok (.aload_n 0, 1) := by decide +kernel
theorem dX12_find_43 : decode cX12_find 43 = .ok (.iconst 0, 1) := by decide +kernel
theorem dX12_find_44 : decode cX12_find 44 = .ok (.putfield 168, 3) := by decide +kernel
theorem dX12_find_47 : decode cX12_find 47 = .ok (.aload_n 0, 1) := by decide +kernel
theorem dX12_find_48 : decode cX12_find 48 = .ok (.iload_n 1, 1) := by decide +kernel
theorem dX12_find_49 : decode cX12_find 49 = .ok (.aload_n 0, 1) := by decide +kernel
theorem dX12_find_50 : decode cX12_find 50 = .ok (.getfield 30, 3) := by decide +kernel
theorem dX12_find_53 : decode cX12_find 53 = .ok (.iload_n 1, 1) := by decide +kernel
theorem dX12_find_54 : decode cX12_find 54 = .ok (.iaload, 1) := by decide +kernel
theorem dX12_find_55 : decode cX12_find 55 = .ok (.iload_n 2, 1) := by decide +kernel
theorem dX12_find_56 : decode cX12_find 56 = .ok (.aload_n 0, 1) := by decide +kernel
theorem dX12_find_57 : decode cX12_find 57 = .ok (.iload_n 3, 1) := by decide +kernel
theorem dX12_find_58 : decode cX12_find 58 = .ok (.invokevirtual 220, 3) := by decide +kernel
theorem dX12_find_61 : decode cX12_find 61 = .ok (.aload_n 0, 1) := by decide +kernel
theorem dX12_find_62 : decode cX12_find 62 = .ok (.getfield 17, 3) := by decide +kernel
theorem dX12_find_65 : decode cX12_find 65 = .ok (.iconst 0, 1) := by decide +kernel
theorem dX12_find_66 : decode cX12_find 66 = .ok (.invokevirtual 210, 3) := by decide +kernel
theorem dX12_find_69 : decode cX12_find 69 = .ok (.istore 4, 2) := by decide +kernel
theorem dX12_find_71 : decode cX12_find 71 = .ok (.iload 4, 2) := by decide +kernel
theorem dX12_find_73 : decode cX12_find 73 = .ok (.ifCond .ge 7, 3) := by decide +kernel
theorem dX12_find_76 : decode cX12_find 76 = .ok (.iconst (-1), 1) := by decide +kernel
theorem dX12_find_77 : decode cX12_find 77 = .ok (.goto 10, 3) := by decide +kernel
theorem dX12_find_80 : decode cX12_find 80 = .ok (.aload_n 0, 1) := by decide +kernel
theorem dX12_find_81 : decode cX12_find 81 = .ok (.getfield 49, 3) := by decide +kernel
theorem dX12_find_84 : decode cX12_find 84 = .ok (.iload 4, 2) := by decide +kernel
theorem dX12_find_86 : decode cX12_find 86 = .ok (.iaload, 1) := by decide +kernel
theorem dX12_find_87 : decode cX12_find 87 = .ok (.ireturn, 1) := by decide +kernel
theorem i9wsX12_find_0 : ∀ w ∈ wsX12_find_r1, w ∈ wsX12_find := fun _ h => (List.mem_cons_of_mem _ (List.mem_append_left _ (List.mem_append_left _ h)))
set_option maxRecDepth 20000 in
theorem ggX12_find_X12_isMask : GoodIn wsX12_find wsX12_isMask := (gin_c (mem_at i9wsX12_find_0 8 rfl) rfl gin_n)
set_option maxRecDepth 20000 in
theorem gX12_find_X12_isMask : GoodIn wsX12_find (wsV RX12 207 RX12 yX12_isMask wsX12_isMask) := goodIn_app (gin_c (mem_at i9wsX12_find_0 4 rfl) rfl (gin_c (mem_at i9wsX12_find_0 5 rfl) rfl (gin_c (mem_at i9wsX12_find_0 6 rfl) rfl (gin_c (mem_at i9wsX12_find_0 7 rfl) rfl gin_n)))) ggX12_find_X12_isMask
theorem i9wsX12_find_3 : ∀ w ∈ wsX120, w ∈ wsX12_find := fun _ h => (List.mem_cons_of_mem _ (List.mem_append_right _ h))
set_option maxRecDepth 20000 in
theorem ggX12_find_X12_isTime : GoodIn wsX12_find wsX12_isTime := (gin_c (mem_at i9wsX12_find_0 12 rfl) rfl (goodIn_app (gin_c (mem_at i9wsX12_find_0 13 rfl) rfl (gin_c (mem_at i9wsX12_find_0 14 rfl) rfl gin_n)) (goodIn_sub i9wsX12_find_3 g9_16)))
set_option maxRecDepth 20000 in
theorem gX12_find_X12_isTime : GoodIn wsX12_find (wsV RX12 217 RX12 yX12_isTime wsX12_isTime) := goodIn_app (gin_c (mem_at i9wsX12_find_0 9 rfl) rfl (gin_c (mem_at i9wsX12_find_0 10 rfl) rfl (gin_c (mem_at i9wsX12_find_0 11 rfl) rfl (gin_c (mem_at i9wsX12_find_0 7 rfl) rfl gin_n)))) ggX12_find_X12_isTime
set_option maxRecDepth 20000 in
theorem ggX12_find_X12_isTable : GoodIn wsX12_find wsX12_isTable := (gin_c (mem_at i9wsX12_find_0 18 rfl) rfl (goodIn_app (gin_c (mem_at i9wsX12_find_0 19 rfl) rfl gin_n) (goodIn_sub i9wsX12_find_3 g9_16)))
set_option maxRecDepth 20000 in
theorem gX12_find_X12_isTable : GoodIn wsX12_find (wsV RX12 153 RX12 yX12_isTable wsX12_isTable) := goodIn_app (gin_c (mem_at i9wsX12_find_0 15 rfl) rfl (gin_c (mem_at i9wsX12_find_0 16 rfl) rfl (gin_c (mem_at i9wsX12_find_0 17 rfl) rfl (gin_c (mem_at i9wsX12_find_0 7 rfl) rfl gin_n)))) ggX12_find_X12_isTable
theorem i9wsX12_find_1 : ∀ w ∈ wsX12_find_r2, w ∈ wsX12_find := fun _ h => (List.mem_cons_of_mem _ (List.mem_append_left _ (List.mem_append_right _ (List.mem_append_left _ h))))
set_option maxRecDepth 20000 in
theorem ggX12_find_X12_fails : GoodIn wsX12_find wsX12_fails := (gin_c (mem_at i9wsX12_find_0 23 rfl) rfl (goodIn_app (gin_c (mem_at i9wsX12_find_1 0 rfl) rfl gin_n) (goodIn_sub i9wsX12_find_3 g9_16)))
set_option maxRecDepth 20000 in
theorem gX12_find_X12_fails : GoodIn wsX12_find (wsV RX12 136 RX12 yX12_fails wsX12_fails) := goodIn_app (gin_c (mem_at i9wsX12_find_0 20 rfl) rfl (gin_c (mem_at i9wsX12_find_0 21 rfl) rfl (gin_c (mem_at i9wsX12_find_0 22 rfl) rfl (gin_c (mem_at i9wsX12_find_0 7 rfl) rfl gin_n)))) ggX12_find_X12_fails
set_option maxRecDepth 20000 in
theorem ggX12_find_X12_timeOf : GoodIn wsX12_find wsX12_timeOf := (gin_c (mem_at i9wsX12_find_1 4 rfl) rfl (goodIn_app (gin_c (mem_at i9wsX12_find_0 14 rfl) rfl gin_n) (goodIn_sub i9wsX12_find_3 g9_16)))
set_option maxRecDepth 20000 in
theorem gX12_find_X12_timeOf : GoodIn wsX12_find (wsV RX12 220 RX12 yX12_timeOf wsX12_timeOf) := goodIn_app (gin_c (mem_at i9wsX12_find_1 1 rfl) rfl (gin_c (mem_at i9wsX12_find_1 2 rfl) rfl (gin_c (mem_at i9wsX12_find_1 3 rfl) rfl (gin_c (mem_at i9wsX12_find_0 7 rfl) rfl gin_n)))) ggX12_find_X12_timeOf
theorem i9wsX12_find_2 : ∀ w ∈ wsX12_find_r3, w ∈ wsX12_find := fun _ h => (List.mem_cons_of_mem _ (List.mem_append_left _ (List.mem_append_right _ (List.mem_append_right _ h))))
set_option maxRecDepth 20000 in
theorem ggX12_find_X12_seek : GoodIn wsX12_find wsX12_seek := (gin_c (mem_at i9wsX12_find_1 8 rfl) rfl (goodIn_app (gin_c (mem_at i9wsX12_find_1 9 rfl) rfl (gin_c (mem_at i9wsX12_find_0 0 rfl) rfl (gin_c (mem_at i9wsX12_find_1 10 rfl) rfl (gin_c (mem_at i9wsX12_find_1 11 rfl) rfl (gin_c (mem_at i9wsX12_find_1 12 rfl) rfl (gin_c (mem_at i9wsX12_find_1 13 rfl) rfl (gin_c (mem_at i9wsX12_find_1 14 rfl) rfl (gin_c (mem_at i9wsX12_find_1 15 rfl) rfl (gin_c (mem_at i9wsX12_find_0 7 rfl) rfl (gin_c (mem_at i9wsX12_find_1 16 rfl) rfl (gin_c (mem_at i9wsX12_find_1 17 rfl) rfl (gin_c (mem_at i9wsX12_find_1 18 rfl) rfl (gin_c (mem_at i9wsX12_find_1 19 rfl) rfl (gin_c (mem_at i9wsX12_find_1 20 rfl) rfl (gin_c (mem_at i9wsX12_find_1 21 rfl) rfl (gin_c (mem_at i9wsX12_find_1 22 rfl) rfl (gin_c (mem_at i9wsX12_find_1 23 rfl) rfl (gin_c (mem_at i9wsX12_find_2 0 rfl) rfl (gin_c (mem_at i9wsX12_find_2 1 rfl) rfl (gin_c (mem_at i9wsX12_find_2 2 rfl) rfl (gin_c (mem_at i9wsX12_find_2 3 rfl) rfl (gin_c (mem_at i9wsX12_find_2 4 rfl) rfl (gin_c (mem_at i9wsX12_find_2 5 rfl) rfl gin_n))))))))))))))))))))))) (goodIn_sub i9wsX12_find_3 g9_16)))
set_option maxRecDepth 20000 in
theorem gX12_find_X12_seek : GoodIn wsX12_find (wsV RX12 210 RX12 yX12_seek wsX12_seek) := goodIn_app (gin_c (mem_at i9wsX12_find_1 5 rfl) rfl (gin_c (mem_at i9wsX12_find_1 6 rfl) rfl (gin_c (mem_at i9wsX12_find_1 7 rfl) rfl (gin_c (mem_at i9wsX12_find_0 7 rfl) rfl gin_n)))) ggX12_find_X12_seek
set_option maxHeartbeats 4000000 in
set_option maxRecDepth 100000 in
theorem T_X12_find (l : Launch) (hl : l.stackTraces = false) (D : va_G) (cA : Nat → ClassId) {l0 : Option Nat} {l1 : Int32} {l2 : Int32} {l3 : Int32} {x : HS} {Q : Int32 → HS → Prop} {X : String → HS → Prop} (h : w_X12_find l0 l1 l2 l3 x Q X) : YI l yX12_find wsX12_find 2 54 D cA [.q l0, .i l1, .i l2, .i l3] x Q X := by
  refine YI.of (cc := cX12_find) (maxL := 5) (ret := (some .int)) hl (by decide) rfl rfl (fun g B fr => ?_)
  have o := B.o
  have hb := B.hb
  have hts := B.hts
  have hown : g.s.vm.findClass RX12 = some g.m.cls := B.hown
  have in12 : ∀ w ∈ u_ws RX12 TX12 57, w ∈ wsX12_find := fun w h => (List.mem_cons_of_mem _ (List.mem_append_right _ h))
  unfold w_X12_find at h
  show KW g 5 0 [(0, .q l0), (1, .i l1), (2, .i l2), (3, .i l3)] [] x
  refine k_aload_n o hb dX12_find_0 rfl 0 rfl ?_
  refine k_aload_n o hb dX12_find_1 rfl 0 rfl ?_
  refine k_iload_n o hb dX12_find_2 rfl 2 rfl ?_
  refine k_run_i o (fun _ _ q => q) (k_runV (ci := 12) (rc := (RX12, TX12, 57)) o hb B.hml hown hts rfl (by decide) (T_X12_isMask g.l o.hl g.D g.cA h.2) (cwV 1 hts gX12_find_X12_isMask rfl rfl rfl (by decide +kernel) ⟨yle B.hR1 rfl, yle B.hR2 rfl⟩) h.1 rfl rfl (Nat.le_of_ble_eq_true rfl) dX12_find_3) (fun v2 x1 h => ?_)
  refine wJoin_elim (M := fun K => ∀ (v5 : Int32) (x4 : HS), K v5 x4 → KW g 5 34 [(0, .q l0), (1, .i l1), (2, .i l2), (3, .i l3)] [.i v5, .q l0] x4) h ?_ (fun j3 hj3 h => ?_)
  · skip
    intro v5 x4 h
    refine k_run_i o (fun _ _ q => q) (k_runV (ci := 12) (rc := (RX12, TX12, 57)) o hb B.hml hown hts rfl (by decide) (T_X12_fails g.l o.hl g.D g.cA h.2) (cwV 1 hts gX12_find_X12_fails rfl rfl rfl (by decide +kernel) ⟨yle B.hR1 rfl, yle B.hR2 rfl⟩) h.1 rfl rfl (Nat.le_of_ble_eq_true rfl) dX12_find_34) (fun v7 x6 h => ?_)
    refine k_if_eq (tgt := 42) o hb dX12_find_37 (by decide) h (fun h => ?_) (fun h => ?_)
    · skip
      refine k_aload_n o hb dX12_find_42 rfl 0 rfl ?_
      refine k_iconst (v := 0) o hb dX12_find_43 (by decide) ?_
      refine k_putI (C := RX12) (T := TX12) (N := 57) (ty := .int) o hb hts in12 tyX12 tyX12_ok nmX12 hown rfl (by decide) 38 (by decide) rfl (hts (.fieldLink RX12 168 "FactKeeperModel" "looked" "I") (by decide +kernel)) (fun _ h9 => h9) rfl (by decide +kernel) (fun _ => rfl) (fun _ => rfl) dX12_find_44 h (fun x8 h => ?_)
      refine k_aload_n o hb dX12_find_47 rfl 0 rfl ?_
      refine k_iload_n o hb dX12_find_48 rfl 1 rfl ?_
      refine k_aload_n o hb dX12_find_49 rfl 0 rfl ?_
      refine k_getF (C := RX12) (T := TX12) (N := 57) o hb hts in12 hown rfl (by decide) 7 (by decide) rfl (hts (.fieldLink RX12 30 "FactKeeperModel" "first" "[I") (by decide +kernel)) (fun _ h9 => h9) dX12_find_50 h (fun v9 h => ?_)
      refine k_iload_n o hb dX12_find_53 rfl 1 rfl ?_
      refine k_iald o hb dX12_find_54 h (fun v10 h => ?_)
      refine k_iload_n o hb dX12_find_55 rfl 2 rfl ?_
      refine k_aload_n o hb dX12_find_56 rfl 0 rfl ?_
      refine k_iload_n o hb dX12_find_57 rfl 3 rfl ?_
      refine k_run_i o (fun _ _ q => q) (k_runV (ci := 12) (rc := (RX12, TX12, 57)) o hb B.hml hown hts rfl (by decide) (T_X12_timeOf g.l o.hl g.D g.cA h.2) (cwV 1 hts gX12_find_X12_timeOf rfl rfl rfl (by decide +kernel) ⟨yle B.hR1 rfl, yle B.hR2 rfl⟩) h.1 rfl rfl (Nat.le_of_ble_eq_true rfl) dX12_find_58) (fun v12 x11 h => ?_)
      refine k_aload_n o hb dX12_find_61 rfl 0 rfl ?_
      refine k_getF (C := RX12) (T := TX12) (N := 57) o hb hts in12 hown rfl (by decide) 3 (by decide) rfl (hts (.fieldLink RX12 17 "FactKeeperModel" "values" "[I") (by decide +kernel)) (fun _ h9 => h9) dX12_find_62 h (fun v13 h => ?_)
      refine k_iconst (v := 0) o hb dX12_find_65 (by decide) ?_
      refine k_run_i o (fun _ _ q => q) (k_runV (ci := 12) (rc := (RX12, TX12, 57)) o hb B.hml hown hts rfl (by decide) (T_X12_seek g.l o.hl g.D g.cA h.2) (cwV 6 hts gX12_find_X12_seek rfl rfl rfl (by decide +kernel) ⟨yle B.hR1 rfl, yle B.hR2 rfl⟩) h.1 rfl rfl (Nat.le_of_ble_eq_true rfl) dX12_find_66) (fun v15 x14 h => ?_)
      refine k_istore o hb dX12_find_69 rfl ?_
      refine k_iload o hb dX12_find_71 0 rfl ?_
      refine wJoin_elim (M := fun K => ∀ (v18 : Int32) (x17 : HS), K v18 x17 → KW g 5 87 [] [.i v18] x17) h ?_ (fun j16 hj16 h => ?_)
      · skip
        intro v18 x17 h
        exact k_iret o hb B.hr fr dX12_find_87 h
      · skip
        refine k_if_ge (tgt := 80) o hb dX12_find_73 (by decide) h (fun h => ?_) (fun h => ?_)
        · skip
          refine k_aload_n o hb dX12_find_80 rfl 1 rfl ?_
          refine k_getF (C := RX12) (T := TX12) (N := 57) o hb hts in12 hown rfl (by decide) 14 (by decide) rfl (hts (.fieldLink RX12 49 "FactKeeperModel" "number" "[I") (by decide +kernel)) (fun _ h9 => h9) dX12_find_81 h (fun v19 h => ?_)
          refine k_iload o hb dX12_find_84 0 rfl ?_
          refine k_iald o hb dX12_find_86 h (fun v20 h => ?_)
          exact KW.sub [] rfl (hj16 v20 x14 h)
        · skip
          refine k_iconst (v := (-1)) o hb dX12_find_76 (by decide) ?_
          refine k_goto (tgt := 87) o hb dX12_find_77 (by decide) ?_
          exact KW.sub [] rfl (hj16 (-1) x14 h)
    · skip
      refine k_iconst (v := 0) o hb dX12_find_40 (by decide) ?_
      exact k_iret o hb B.hr fr dX12_find_41 h
  · skip
    refine wJoin_elim (M := fun K => ∀  (x22 : HS), K  x22 → KW g 5 17 [(0, .q l0), (1, .i l1), (2, .i l2), (3, .i l3)] [.q l0] x22) h ?_ (fun j21 hj21 h => ?_)
    · skip
      intro  x22 h
      refine k_iconst (v := 1) o hb dX12_find_17 (by decide) ?_
      refine k_goto (tgt := 34) o hb dX12_find_18 (by decide) ?_
      exact KW.sub [0, 1, 2, 3] rfl (hj3 1 x22 h)
    · skip
      refine k_if_eq (tgt := 17) o hb dX12_find_6 (by decide) h (fun h => ?_) (fun h => ?_)
      · skip
        exact KW.sub [0, 1, 2, 3] rfl (hj21 x1 h)
      · skip
        refine k_aload_n o hb dX12_find_9 rfl 0 rfl ?_
        refine k_iload_n o hb dX12_find_10 rfl 3 rfl ?_
        refine k_run_i o (fun _ _ q => q) (k_runV (ci := 12) (rc := (RX12, TX12, 57)) o hb B.hml hown hts rfl (by decide) (T_X12_isTime g.l o.hl g.D g.cA h.2) (cwV 1 hts gX12_find_X12_isTime rfl rfl rfl (by decide +kernel) ⟨yle B.hR1 rfl, yle B.hR2 rfl⟩) h.1 rfl rfl (Nat.le_of_ble_eq_true rfl) dX12_find_11) (fun v24 x23 h => ?_)
        refine k_if_ne (tgt := 21) o hb dX12_find_14 (by decide) h (fun h => ?_) (fun h => ?_)
        · skip
          exact KW.sub [0, 1, 2, 3] rfl (hj21 x23 h)
        · skip
          refine k_aload_n o hb dX12_find_21 rfl 0 rfl ?_
          refine k_iload_n o hb dX12_find_22 rfl 1 rfl ?_
          refine k_run_i o (fun _ _ q => q) (k_runV (ci := 12) (rc := (RX12, TX12, 57)) o hb B.hml hown hts rfl (by decide) (T_X12_isTable g.l o.hl g.D g.cA h.2) (cwV 1 hts gX12_find_X12_isTable rfl rfl rfl (by decide +kernel) ⟨yle B.hR1 rfl, yle B.hR2 rfl⟩) h.1 rfl rfl (Nat.le_of_ble_eq_true rfl) dX12_find_23) (fun v26 x25 h => ?_)
          refine k_if_ne (tgt := 33) o hb dX12_find_26 (by decide) h (fun h => ?_) (fun h => ?_)
          · skip
            refine k_iconst (v := 2) o hb dX12_find_29 (by decide) ?_
            refine k_goto (tgt := 34) o hb dX12_find_30 (by decide) ?_
            exact KW.sub [0, 1, 2, 3] rfl (hj3 2 x25 h)
          · skip
            refine k_iconst (v := 0) o hb dX12_find_33 (by decide) ?_
            exact KW.sub [0, 1, 2, 3] rfl (hj3 0 x25 h)
theorem dX12_many_0 : decode cX12_many 0 = .ok (.aload_n 0, 1) := by decide +kernel
theorem dX12_many_1 : decode cX12_many 1 = .ok (.aload_n 0, 1) := by decide +kernel
theorem dX12_many_2 : decode cX12_many 2 = .ok (.iload_n 2, 1) := by decide +kernel
theorem dX12_many_3 : decode cX12_many 3 = .ok (.invokevirtual 207, 3) := by decide +kernel
theorem dX12_many_6 : decode cX12_many 6 = .ok (.ifCond .eq 11, 3) := by decide +kernel
theorem dX12_many_9 : decode cX12_many 9 = .ok (.aload_n 0, 1) := by decide +kernel
theorem dX12_many_10 : decode cX12_many 10 = .ok (.iload_n 3, 1) := by decide +kernel
theorem dX12_many_11 : decode cX12_many 11 = .ok (.invokevirtual 217, 3) := by decide +kernel
theorem dX12_many_14 : decode cX12_many 14 = .ok (.ifCond .ne 7, 3) := by decide +kernel
theorem dX12_many_17 : decode cX12_many 17 = .ok (.iconst 1, 1) := by decide +kernel
theorem dX12_many_18 : decode cX12_many 18 = .ok (.goto 16, 3) := by decide +kernel
theorem dX12_many_21 : decode cX12_many 21 = .ok (.aload_n 0, 1) := by decide +kernel
theorem dX12_many_22 : decode cX12_many 22 = .ok (.iload_n 1, 1) := by decide +kernel
theorem dX12_many_23 : decode cX12_many 23 = .ok (.invokevirtual 153, 3) := by decide +kernel
theorem dX12_many_26 : decode cX12_many 26 = .ok (.ifCond .ne 7, 3) := by decide +kernel
theorem dX12_many_29 : decode cX12_many 29 = .ok (.iconst 2, 1) := by decide +kernel
theorem dX12_many_30 : decode cX12_many 30 = .ok (.goto 4, 3) := by decide +kernel
theorem dX12_many_33 : decode cX12_many 33 = .ok (.iconst 0, 1) := by decide +kernel
theorem dX12_many_34 : decode cX12_many 34 = .ok (.invokevirtual 136, 3) := by decide +kernel
theorem dX12_many_37 : decode cX12_many 37 = .ok (.ifCond .eq 5, 3) := by decide +kernel
theorem dX12_many_40 : decode cX12_many 40 = .ok (.iconst 0, 1) := by decide +kernel
theorem dX12_many_41 : decode cX12_many 41 = .ok (.ireturn, 1) := by decide +kernel
theorem dX12_many_42 : decode cX12_many 42 = .ok (.aload_n 0, 1) := by decide +kernel
theorem dX12_many_43 : decode cX12_many 43 = .ok (.iconst 0, 1) := by decide +kernel
theorem dX12_many_44 : decode cX12_many 44 = .ok (.putfield 168, 3) := by decide +kernel
theorem dX12_many_47 : decode cX12_many 47 = .ok (.iconst 0, 1) := by decide +kernel
theorem dX12_many_48 : decode cX12_many 48 = .ok (.istore 4, 2) := by decide +kernel
theorem dX12_many_50 : decode cX12_many 50 = .ok (.aload_n 0, 1) := by decide +kernel
theorem dX12_many_51 : decode cX12_many 51 = .ok (.iload_n 1, 1) := by decide +kernel
theorem dX12_many_52 : decode cX12_many 52 = .ok (.aload_n 0, 1) := by decide +kernel
theorem dX12_many_53 : decode cX12_many 53 = .ok (.getfield 30, 3) := by decide +kernel
theorem dX12_many_56 : decode cX12_many 56 = .ok (.iload_n 1, 1) := by decide +kernel
theorem dX12_many_57 : decode cX12_many 57 = .ok (.iaload, 1) := by decide +kernel
theorem dX12_many_58 : decode cX12_many 58 = .ok (.iload_n 2, 1) := by decide +kernel
theorem dX12_many_59 : decode cX12_many 59 = .ok (.aload_n 0, 1) := by decide +kernel
theorem dX12_many_60 : decode cX12_many 60 = .ok (.iload_n 3, 1) := by decide +kernel
theorem dX12_many_61 : decode cX12_many 61 = .ok (.invokevirtual 220, 3) := by decide +kernel
theorem dX12_many_64 : decode cX12_many 64 = .ok (.aload_n 0, 1) := by decide +kernel
theorem dX12_many_65 : decode cX12_many 65 = .ok (.getfield 17, 3) := by decide +kernel
theorem dX12_many_68 : decode cX12_many 68 = .ok (.iconst 0, 1) := by decide +kernel
theorem dX12_many_69 : decode cX12_many 69 = .ok (.invokevirtual 210, 3) := by decide +kernel
theorem dX12_many_72 : decode cX12_many 72 = .ok (.istore 5, 2) := by decide +kernel
theorem dX12_many_74 : decode cX12_many 74 = .ok (.iload 5, 2) := by decide +kernel
theorem dX12_many_76 : decode cX12_many 76 = .ok (.ifCond .lt 34, 3) := by decide +kernel
theorem dX12_many_79 : decode cX12_many 79 = .ok (.iinc 4 1, 3) := by decide +kernel
theorem dX12_many_82 : decode cX12_many 82 = .ok (.aload_n 0, 1) := by decide +kernel
theorem dX12_many_83 : decode cX12_many 83 = .ok (.iload_n 1, 1) := by decide +kernel
theorem dX12_many_84 : decode cX12_many 84 = .ok (.aload_n 0, 1) := by decide +kernel
theorem dX12_many_85 : decode cX12_many 85 = .ok (.getfield 61, 3) := by decide +kernel
theorem dX12_many_88 : decode cX12_many 88 = .ok (.iload 5, 2) := by decide +kernel
theorem dX12_many_90 : decode cX12_many 90 = .ok (.iaload, 1) := by decide +kernel
theorem dX12_many_91 : decode cX12_many 91 = .ok (.iload_n 2, 1) := by decide +kernel
theorem dX12_many_92 : decode cX12_many 92 = .ok (.aload_n 0, 1) := by decide +kernel
theorem dX12_many_93 : decode cX12_many 93 = .ok (.iload_n 3, 1) := by decide +kernel
theorem dX12_many_94 : decode cX12_many 94 = .ok (.invokevirtual 220, 3) := by decide +kernel
theorem dX12_many_97 : decode cX12_many 97 = .ok (.aload_n 0, 1) := by decide +kernel
theorem dX12_many_98 : decode cX12_many 98 = .ok (.getfield 17, 3) := by decide +kernel
theorem dX12_many_101 : decode cX12_many 101 = .ok (.iconst 0, 1) := by decide +kernel
theorem dX12_many_102 : decode cX12_many 102 = .ok (.invokevirtual 210, 3) := by decide +kernel
theorem dX12_many_105 : decode cX12_many 105 = .ok (.istore 5, 2) := by decide +kernel
theorem dX12_many_107 : decode cX12_many 107 = .ok (.goto (-33), 3) := by decide +kernel
theorem dX12_many_110 : decode cX12_many 110 = .ok (.iload 4, 2) := by decide +kernel
theorem dX12_many_112 : decode cX12_many 112 = .ok (.ireturn, 1) := by decide +kernel
theorem i9wsX12_many_0 : ∀ w ∈ wsX12_many_r1, w ∈ wsX12_many := fun _ h => (List.mem_cons_of_mem _ (List.mem_append_left _ (List.mem_append_left _ h)))
set_option maxRecDepth 20000 in
theorem ggX12_many_X12_isMask : GoodIn wsX12_many wsX12_isMask := (gin_c (mem_at i9wsX12_many_0 8 rfl) rfl gin_n)
set_option maxRecDepth 20000 in
theorem gX12_many_X12_isMask : GoodIn wsX12_many (wsV RX12 207 RX12 yX12_isMask wsX12_isMask) := goodIn_app (gin_c (mem_at i9wsX12_many_0 4 rfl) rfl (gin_c (mem_at i9wsX12_many_0 5 rfl) rfl (gin_c (mem_at i9wsX12_many_0 6 rfl) rfl (gin_c (mem_at i9wsX12_many_0 7 rfl) rfl gin_n)))) ggX12_many_X12_isMask
theorem i9wsX12_many_3 : ∀ w ∈ wsX120, w ∈ wsX12_many := fun _ h => (List.mem_cons_of_mem _ (List.mem_append_right _ h))
set_option maxRecDepth 20000 in
theorem ggX12_many_X12_isTime : GoodIn wsX12_many wsX12_isTime := (gin_c (mem_at i9wsX12_many_0 12 rfl) rfl (goodIn_app (gin_c (mem_at i9wsX12_many_0 13 rfl) rfl (gin_c (mem_at i9wsX12_many_0 14 rfl) rfl gin_n)) (goodIn_sub i9wsX12_many_3 g9_16)))
set_option maxRecDepth 20000 in
theorem gX12_many_X12_isTime : GoodIn wsX12_many (wsV RX12 217 RX12 yX12_isTime wsX12_isTime) := goodIn_app (gin_c (mem_at i9wsX12_many_0 9 rfl) rfl (gin_c (mem_at i9wsX12_many_0 10 rfl) rfl (gin_c (mem_at i9wsX12_many_0 11 rfl) rfl (gin_c (mem_at i9wsX12_many_0 7 rfl) rfl gin_n)))) ggX12_many_X12_isTime
set_option maxRecDepth 20000 in
theorem ggX12_many_X12_isTable : GoodIn wsX12_many wsX12_isTable := (gin_c (mem_at i9wsX12_many_0 18 rfl) rfl (goodIn_app (gin_c (mem_at i9wsX12_many_0 19 rfl) rfl gin_n) (goodIn_sub i9wsX12_many_3 g9_16)))
set_option maxRecDepth 20000 in
theorem gX12_many_X12_isTable : GoodIn wsX12_many (wsV RX12 153 RX12 yX12_isTable wsX12_isTable) := goodIn_app (gin_c (mem_at i9wsX12_many_0 15 rfl) rfl (gin_c (mem_at i9wsX12_many_0 16 rfl) rfl (gin_c (mem_at i9wsX12_many_0 17 rfl) rfl (gin_c (mem_at i9wsX12_many_0 7 rfl) rfl gin_n)))) ggX12_many_X12_isTable
theorem i9wsX12_many_1 : ∀ w ∈ wsX12_many_r2, w ∈ wsX12_many := fun _ h => (List.mem_cons_of_mem _ (List.mem_append_left _ (List.mem_append_right _ (List.mem_append_left _ h))))
set_option maxRecDepth 20000 in
theorem ggX12_many_X12_fails : GoodIn wsX12_many wsX12_fails := (gin_c (mem_at i9wsX12_many_0 23 rfl) rfl (goodIn_app (gin_c (mem_at i9wsX12_many_1 0 rfl) rfl gin_n) (goodIn_sub i9wsX12_many_3 g9_16)))
set_option maxRecDepth 20000 in
theorem gX12_many_X12_fails : GoodIn wsX12_many (wsV RX12 136 RX12 yX12_fails wsX12_fails) := goodIn_app (gin_c (mem_at i9wsX12_many_0 20 rfl) rfl (gin_c (mem_at i9wsX12_many_0 21 rfl) rfl (gin_c (mem_at i9wsX12_many_0 22 rfl) rfl (gin_c (mem_at i9wsX12_many_0 7 rfl) rfl gin_n)))) ggX12_many_X12_fails
set_option maxRecDepth 20000 in
theorem ggX12_many_X12_timeOf : GoodIn wsX12_many wsX12_timeOf := (gin_c (mem_at i9wsX12_many_1 4 rfl) rfl (goodIn_app (gin_c (mem_at i9wsX12_many_0 14 rfl) rfl gin_n) (goodIn_sub i9wsX12_many_3 g9_16)))
set_option maxRecDepth 20000 in
theorem gX12_many_X12_timeOf : GoodIn wsX12_many (wsV RX12 220 RX12 yX12_timeOf wsX12_timeOf) := goodIn_app (gin_c (mem_at i9wsX12_many_1 1 rfl) rfl (gin_c (mem_at i9wsX12_many_1 2 rfl) rfl (gin_c (mem_at i9wsX12_many_1 3 rfl) rfl (gin_c (mem_at i9wsX12_many_0 7 rfl) rfl gin_n)))) ggX12_many_X12_timeOf
theorem i9wsX12_many_2 : ∀ w ∈ wsX12_many_r3, w ∈ wsX12_many := fun _ h => (List.mem_cons_of_mem _ (List.mem_append_left _ (List.mem_append_right _ (List.mem_append_right _ h))))
set_option maxRecDepth 20000 in
theorem ggX12_many_X12_seek : GoodIn wsX12_many wsX12_seek := (gin_c (mem_at i9wsX12_many_1 8 rfl) rfl (goodIn_app (gin_c (mem_at i9wsX12_many_1 9 rfl) rfl (gin_c (mem_at i9wsX12_many_0 0 rfl) rfl (gin_c (mem_at i9wsX12_many_1 10 rfl) rfl (gin_c (mem_at i9wsX12_many_1 11 rfl) rfl (gin_c (mem_at i9wsX12_many_0 3 rfl) rfl (gin_c (mem_at i9wsX12_many_1 12 rfl) rfl (gin_c (mem_at i9wsX12_many_1 13 rfl) rfl (gin_c (mem_at i9wsX12_many_1 14 rfl) rfl (gin_c (mem_at i9wsX12_many_0 7 rfl) rfl (gin_c (mem_at i9wsX12_many_1 15 rfl) rfl (gin_c (mem_at i9wsX12_many_1 16 rfl) rfl (gin_c (mem_at i9wsX12_many_1 17 rfl) rfl (gin_c (mem_at i9wsX12_many_1 18 rfl) rfl (gin_c (mem_at i9wsX12_many_1 19 rfl) rfl (gin_c (mem_at i9wsX12_many_1 20 rfl) rfl (gin_c (mem_at i9wsX12_many_1 21 rfl) rfl (gin_c (mem_at i9wsX12_many_1 22 rfl) rfl (gin_c (mem_at i9wsX12_many_1 23 rfl) rfl (gin_c (mem_at i9wsX12_many_2 0 rfl) rfl (gin_c (mem_at i9wsX12_many_2 1 rfl) rfl (gin_c (mem_at i9wsX12_many_2 2 rfl) rfl (gin_c (mem_at i9wsX12_many_2 3 rfl) rfl (gin_c (mem_at i9wsX12_many_2 4 rfl) rfl gin_n))))))))))))))))))))))) (goodIn_sub i9wsX12_many_3 g9_16)))
set_option maxRecDepth 20000 in
theorem gX12_many_X12_seek : GoodIn wsX12_many (wsV RX12 210 RX12 yX12_seek wsX12_seek) := goodIn_app (gin_c (mem_at i9wsX12_many_1 5 rfl) rfl (gin_c (mem_at i9wsX12_many_1 6 rfl) rfl (gin_c (mem_at i9wsX12_many_1 7 rfl) rfl (gin_c (mem_at i9wsX12_many_0 7 rfl) rfl gin_n)))) ggX12_many_X12_seek
set_option maxHeartbeats 4000000 in
set_option maxRecDepth 100000 in
theorem T_X12_many (l : Launch) (hl : l.stackTraces = false) (D : va_G) (cA : Nat → ClassId) {l0 : Option Nat} {l1 : Int32} {l2 : Int32} {l3 : Int32} {x : HS} {Q : Int32 → HS → Prop} {X : String → HS → Prop} (h : w_X12_many l0 l1 l2 l3 x Q X) : YI l yX12_many wsX12_many 2 54 D cA [.q l0, .i l1, .i l2, .i l3] x Q X := by
  refine YI.of (cc := cX12_many) (maxL := 6) (ret := (some .int)) hl (by decide) rfl rfl (fun g B fr => ?_)
  have o := B.o
  have hb := B.hb
  have hts := B.hts
  have hown : g.s.vm.findClass RX12 = some g.m.cls := B.hown
  have in12 : ∀ w ∈ u_ws RX12 TX12 57, w ∈ wsX12_many := fun w h => (List.mem_cons_of_mem _ (List.mem_append_right _ h))
  unfold w_X12_many at h
  show KW g 6 0 [(0, .q l0), (1, .i l1), (2, .i l2), (3, .i l3)] [] x
  refine k_aload_n o hb dX12_many_0 rfl 0 rfl ?_
  refine k_aload_n o hb dX12_many_1 rfl 0 rfl ?_
  refine k_iload_n o hb dX12_many_2 rfl 2 rfl ?_
  refine k_run_i o (fun _ _ q => q) (k_runV (ci := 12) (rc := (RX12, TX12, 57)) o hb B.hml hown hts rfl (by decide) (T_X12_isMask g.l o.hl g.D g.cA h.2) (cwV 1 hts gX12_many_X12_isMask rfl rfl rfl (by decide +kernel) ⟨yle B.hR1 rfl, yle B.hR2 rfl⟩) h.1 rfl rfl (Nat.le_of_ble_eq_true rfl) dX12_many_3) (fun v2 x1 h => ?_)
  refine wJoin_elim (M := fun K => ∀ (v5 : Int32) (x4 : HS), K v5 x4 → KW g 6 34 [(0, .q l0), (1, .i l1), (2, .i l2), (3, .i l3)] [.i v5, .q l0] x4) h ?_ (fun j3 hj3 h => ?_)
  · skip
    intro v5 x4 h
    refine k_run_i o (fun _ _ q => q) (k_runV (ci := 12) (rc := (RX12, TX12, 57)) o hb B.hml hown hts rfl (by decide) (T_X12_fails g.l o.hl g.D g.cA h.2) (cwV 1 hts gX12_many_X12_fails rfl rfl rfl (by decide +kernel) ⟨yle B.hR1 rfl, yle B.hR2 rfl⟩) h.1 rfl rfl (Nat.le_of_ble_eq_true rfl) dX12_many_34) (fun v7 x6 h => ?_)
    refine k_if_eq (tgt := 42) o hb dX12_many_37 (by decide) h (fun h => ?_) (fun h => ?_)
    · skip
      refine k_aload_n o hb dX12_many_42 rfl 0 rfl ?_
      refine k_iconst (v := 0) o hb dX12_many_43 (by decide) ?_
      refine k_putI (C := RX12) (T := TX12) (N := 57) (ty := .int) o hb hts in12 tyX12 tyX12_ok nmX12 hown rfl (by decide) 38 (by decide) rfl (hts (.fieldLink RX12 168 "FactKeeperModel" "looked" "I") (by decide +kernel)) (fun _ h9 => h9) rfl (by decide +kernel) (fun _ => rfl) (fun _ => rfl) dX12_many_44 h (fun x8 h => ?_)
      refine k_iconst (v := 0) o hb dX12_many_47 (by decide) ?_
      refine k_istore o hb dX12_many_48 rfl ?_
      refine k_aload_n o hb dX12_many_50 rfl 1 rfl ?_
      refine k_iload_n o hb dX12_many_51 rfl 2 rfl ?_
      refine k_aload_n o hb dX12_many_52 rfl 1 rfl ?_
      refine k_getF (C := RX12) (T := TX12) (N := 57) o hb hts in12 hown rfl (by decide) 7 (by decide) rfl (hts (.fieldLink RX12 30 "FactKeeperModel" "first" "[I") (by decide +kernel)) (fun _ h9 => h9) dX12_many_53 h (fun v9 h => ?_)
      refine k_iload_n o hb dX12_many_56 rfl 2 rfl ?_
      refine k_iald o hb dX12_many_57 h (fun v10 h => ?_)
      refine k_iload_n o hb dX12_many_58 rfl 3 rfl ?_
      refine k_aload_n o hb dX12_many_59 rfl 1 rfl ?_
      refine k_iload_n o hb dX12_many_60 rfl 4 rfl ?_
      refine k_run_i o (fun _ _ q => q) (k_runV (ci := 12) (rc := (RX12, TX12, 57)) o hb B.hml hown hts rfl (by decide) (T_X12_timeOf g.l o.hl g.D g.cA h.2) (cwV 1 hts gX12_many_X12_timeOf rfl rfl rfl (by decide +kernel) ⟨yle B.hR1 rfl, yle B.hR2 rfl⟩) h.1 rfl rfl (Nat.le_of_ble_eq_true rfl) dX12_many_61) (fun v12 x11 h => ?_)
      refine k_aload_n o hb dX12_many_64 rfl 1 rfl ?_
      refine k_getF (C := RX12) (T := TX12) (N := 57) o hb hts in12 hown rfl (by decide) 3 (by decide) rfl (hts (.fieldLink RX12 17 "FactKeeperModel" "values" "[I") (by decide +kernel)) (fun _ h9 => h9) dX12_many_65 h (fun v13 h => ?_)
      refine k_iconst (v := 0) o hb dX12_many_68 (by decide) ?_
      refine k_run_i o (fun _ _ q => q) (k_runV (ci := 12) (rc := (RX12, TX12, 57)) o hb B.hml hown hts rfl (by decide) (T_X12_seek g.l o.hl g.D g.cA h.2) (cwV 6 hts gX12_many_X12_seek rfl rfl rfl (by decide +kernel) ⟨yle B.hR1 rfl, yle B.hR2 rfl⟩) h.1 rfl rfl (Nat.le_of_ble_eq_true rfl) dX12_many_69) (fun v15 x14 h => ?_)
      refine k_istore o hb dX12_many_72 rfl ?_
      refine KW.sub [2, 3, 4, 5, 1, 0] rfl ?_
      refine wLoop_elim (M := fun (v19 : Int32 × Int32) (x18 : HS) => KW g 6 74 [(0, .q l0), (1, .i l1), (2, .i l2), (3, .i l3), (4, .i v19.1), (5, .i v19.2)] [] x18) h ?_
      intro v19 x18 again16 ih17 h
      refine k_iload o hb dX12_many_74 5 rfl ?_
      refine k_if_lt (tgt := 110) o hb dX12_many_76 (by decide) h (fun h => ?_) (fun h => ?_)
      · skip
        refine k_iload o hb dX12_many_110 4 rfl ?_
        exact k_iret o hb B.hr fr dX12_many_112 h
      · skip
        refine k_iinc (w := 1) o hb dX12_many_79 4 rfl (by decide) rfl ?_
        refine k_aload_n o hb dX12_many_82 rfl 1 rfl ?_
        refine k_iload_n o hb dX12_many_83 rfl 2 rfl ?_
        refine k_aload_n o hb dX12_many_84 rfl 1 rfl ?_
        refine k_getF (C := RX12) (T := TX12) (N := 57) o hb hts in12 hown rfl (by decide) 18 (by decide) rfl (hts (.fieldLink RX12 61 "FactKeeperModel" "behind" "[I") (by decide +kernel)) (fun _ h9 => h9) dX12_many_85 h (fun v20 h => ?_)
        refine k_iload o hb dX12_many_88 5 rfl ?_
        refine k_iald o hb dX12_many_90 h (fun v21 h => ?_)
        refine k_iload_n o hb dX12_many_91 rfl 3 rfl ?_
        refine k_aload_n o hb dX12_many_92 rfl 1 rfl ?_
        refine k_iload_n o hb dX12_many_93 rfl 4 rfl ?_
        refine k_run_i o (fun _ _ q => q) (k_runV (ci := 12) (rc := (RX12, TX12, 57)) o hb B.hml hown hts rfl (by decide) (T_X12_timeOf g.l o.hl g.D g.cA h.2) (cwV 1 hts gX12_many_X12_timeOf rfl rfl rfl (by decide +kernel) ⟨yle B.hR1 rfl, yle B.hR2 rfl⟩) h.1 rfl rfl (Nat.le_of_ble_eq_true rfl) dX12_many_94) (fun v23 x22 h => ?_)
        refine k_aload_n o hb dX12_many_97 rfl 1 rfl ?_
        refine k_getF (C := RX12) (T := TX12) (N := 57) o hb hts in12 hown rfl (by decide) 3 (by decide) rfl (hts (.fieldLink RX12 17 "FactKeeperModel" "values" "[I") (by decide +kernel)) (fun _ h9 => h9) dX12_many_98 h (fun v24 h => ?_)
        refine k_iconst (v := 0) o hb dX12_many_101 (by decide) ?_
        refine k_run_i o (fun _ _ q => q) (k_runV (ci := 12) (rc := (RX12, TX12, 57)) o hb B.hml hown hts rfl (by decide) (T_X12_seek g.l o.hl g.D g.cA h.2) (cwV 6 hts gX12_many_X12_seek rfl rfl rfl (by decide +kernel) ⟨yle B.hR1 rfl, yle B.hR2 rfl⟩) h.1 rfl rfl (Nat.le_of_ble_eq_true rfl) dX12_many_102) (fun v26 x25 h => ?_)
        refine k_istore o hb dX12_many_105 rfl ?_
        refine k_goto (tgt := 74) o hb dX12_many_107 (by decide) ?_
        exact KW.sub [2, 3, 4, 5, 1, 0] rfl (ih17 ((v19.1 + 1), v26) x25 h)
    · skip
      refine k_iconst (v := 0) o hb dX12_many_40 (by decide) ?_
      exact k_iret o hb B.hr fr dX12_many_41 h
  · skip
    refine wJoin_elim (M := fun K => ∀  (x28 : HS), K  x28 → KW g 6 17 [(0, .q l0), (1, .i l1), (2, .i l2), (3, .i l3)] [.q l0] x28) h ?_ (fun j27 hj27 h => ?_)
    · skip
      intro  x28 h
      refine k_iconst (v := 1) o hb dX12_many_17 (by decide) ?_
      refine k_goto (tgt := 34) o hb dX12_many_18 (by decide) ?_
      exact KW.sub [0, 1, 2, 3] rfl (hj3 1 x28 h)
    · skip
      refine k_if_eq (tgt := 17) o hb dX12_many_6 (by decide) h (fun h => ?_) (fun h => ?_)
      · skip
        exact KW.sub [0, 1, 2, 3] rfl (hj27 x1 h)
      · skip
        refine k_aload_n o hb dX12_many_9 rfl 0 rfl ?_
        refine k_iload_n o hb dX12_many_10 rfl 3 rfl ?_
        refine k_run_i o (fun _ _ q => q) (k_runV (ci := 12) (rc := (RX12, TX12, 57)) o hb B.hml hown hts rfl (by decide) (T_X12_isTime g.l o.hl g.D g.cA h.2) (cwV 1 hts gX12_many_X12_isTime rfl rfl rfl (by decide +kernel) ⟨yle B.hR1 rfl, yle B.hR2 rfl⟩) h.1 rfl rfl (Nat.le_of_ble_eq_true rfl) dX12_many_11) (fun v30 x29 h => ?_)
        refine k_if_ne (tgt := 21) o hb dX12_many_14 (by decide) h (fun h => ?_) (fun h => ?_)
        · skip
          exact KW.sub [0, 1, 2, 3] rfl (hj27 x29 h)
        · skip
          refine k_aload_n o hb dX12_many_21 rfl 0 rfl ?_
          refine k_iload_n o hb dX12_many_22 rfl 1 rfl ?_
          refine k_run_i o (fun _ _ q => q) (k_runV (ci := 12) (rc := (RX12, TX12, 57)) o hb B.hml hown hts rfl (by decide) (T_X12_isTable g.l o.hl g.D g.cA h.2) (cwV 1 hts gX12_many_X12_isTable rfl rfl rfl (by decide +kernel) ⟨yle B.hR1 rfl, yle B.hR2 rfl⟩) h.1 rfl rfl (Nat.le_of_ble_eq_true rfl) dX12_many_23) (fun v32 x31 h => ?_)
          refine k_if_ne (tgt := 33) o hb dX12_many_26 (by decide) h (fun h => ?_) (fun h => ?_)
          · skip
            refine k_iconst (v := 2) o hb dX12_many_29 (by decide) ?_
            refine k_goto (tgt := 34) o hb dX12_many_30 (by decide) ?_
            exact KW.sub [0, 1, 2, 3] rfl (hj3 2 x31 h)
          · skip
            refine k_iconst (v := 0) o hb dX12_many_33 (by decide) ?_
            exact KW.sub [0, 1, 2, 3] rfl (hj3 0 x31 h)
theorem dX12_open_0 : decode cX12_open 0 = .ok (.iconst 0, 1) := by decide +kernel
theorem dX12_open_1 : decode cX12_open 1 = .ok (.istore 4, 2) := by decide +kernel
theorem dX12_open_3 : decode cX12_open 3 = .ok (.iload 4, 2) := by decide +kernel
theorem dX12_open_5 : decode cX12_open 5 = .ok (.bipush 10, 2) := by decide +kernel
theorem dX12_open_7 : decode cX12_open 7 = .ok (.if_icmp .ge 19, 3) := by decide +kernel
theorem dX12_open_10 : decode cX12_open 10 = .ok (.aload_n 0, 1) := by decide +kernel
theorem dX12_open_11 : decode cX12_open 11 = .ok (.getfield 73, 3) := by decide +kernel
theorem dX12_open_14 : decode cX12_open 14 = .ok (.iload 4, 2) := by decide +kernel
theorem dX12_open_16 : decode cX12_open 16 = .ok (.baload, 1) := by decide +kernel
theorem dX12_open_17 : decode cX12_open 17 = .ok (.ifCond .eq 9, 3) := by decide +kernel
theorem dX12_open_20 : decode cX12_open 20 = .ok (.iinc 4 1, 3) := by decide +kernel
theorem dX12_open_23 : decode cX12_open 23 = .ok (.goto (-20), 3) := by decide +kernel
theorem dX12_open_26 : decode cX12_open 26 = .ok (.aload_n 0, 1) := by decide +kernel
theorem dX12_open_27 : decode cX12_open 27 = .ok (.aload_n 0, 1) := by decide +kernel
theorem dX12_open_28 : decode cX12_open 28 = .ok (.iload_n 2, 1) := by decide +kernel
theorem dX12_open_29 : decode cX12_open 29 = .ok (.invokevirtual 207, 3) := by decide +kernel
theorem dX12_open_32 : decode cX12_open 32 = .ok (.ifCond .eq 11, 3) := by decide +kernel
theorem dX12_open_35 : decode cX12_open 35 = .ok (.aload_n 0, 1) := by decide +kernel
theorem dX12_open_36 : decode cX12_open 36 = .ok (.iload_n 3, 1) := by decide +kernel
theorem dX12_open_37 : decode cX12_open 37 = .ok (.invokevirtual 217, 3) := by decide +kernel
theorem dX12_open_40 : decode cX12_open 40 = .ok (.ifCond .ne 7, 3) := by decide +kernel
theorem dX12_open_43 : decode cX12_open 43 = .ok (.iconst 1, 1) := by decide +kernel
theorem dX12_open_44 : decode cX12_open 44 = .ok (.goto 27, 3) := by decide +kernel
theorem dX12_open_47 : decode cX12_open 47 = .ok (.aload_n 0, 1) := by decide +kernel
theorem dX12_open_48 : decode cX12_open 48 = .ok (.iload_n 1, 1) := by decide +kernel
theorem dX12_open_49 : decode cX12_open 49 = .ok (.invokevirtual 153, 3) := by decide +kernel
theorem dX12_open_52 : decode cX12_open 52 = .ok (.ifCond .ne 7, 3) := by decide +kernel
theorem dX12_open_55 : decode cX12_open 55 = .ok (.iconst 2, 1) := by decide +kernel
theorem dX12_open_56 : decode cX12_open 56 = .ok (.goto 15, 3) := by decide +kernel
theorem dX12_open_59 : decode cX12_open 59 = .ok (.iload 4, 2) := by decide +kernel
theorem dX12_open_61 : decode cX12_open 61 = .ok (.bipush 10, 2) := by decide +kernel
theorem dX12_open_63 : decode cX12_open 63 = .ok (.if_icmp .ne 7, 3) := by decide +kernel
theorem dX12_open_66 : decode cX12_open 66 = .ok (.iconst 3, 1) := by decide +kernel
theorem dX12_open_67 : decode cX12_open 67 = .ok (.goto 4, 3) := by decide +kernel
theorem dX12_open_70 : decode cX12_open 70 = .ok (.iconst 0, 1) := by decide +kernel
theorem dX12_open_71 : decode cX12_open 71 = .ok (.invokevirtual 136, 3) := by decide +kernel
theorem dX12_open_74 : decode cX12_open 74 = .ok (.ifCond .eq 5, 3) := by decide +kernel
theorem dX12_open_77 : decode cX12_open 77 = .ok (.iconst 0, 1) := by decide +kernel
theorem dX12_open_78 : decode cX12_open 78 = .ok (.ireturn, 1) := by decide +kernel
theorem dX12_open_79 : decode cX12_open 79 = .ok (.aload_n 0, 1) := by decide +kernel
theorem dX12_open_80 : decode cX12_open 80 = .ok (.getfield 73, 3) := by decide +kernel
theorem dX12_open_83 : decode cX12_open 83 = .ok (.iload 4, 2) := by decide +kernel
theorem dX12_open_85 : decode cX12_open 85 = .ok (.iconst 1, 1) := by decide +kernel
theorem dX12_open_86 : decode cX12_open 86 = .ok (.bastore, 1) := by decide +kernel
theorem dX12_open_87 : decode cX12_open 87 = .ok (.aload_n 0, 1) := by decide +kernel
theorem dX12_open_88 : decode cX12_open 88 = .ok (.getfield 76, 3) := by decide +kernel
theorem dX12_open_91 : decode cX12_open 91 = .ok (.iload 4, 2) := by decide +kernel
theorem dX12_open_93 : decode cX12_open 93 = .ok (.iconst 0, 1) := by decide +kernel
theorem dX12_open_94 : decode cX12_open 94 = .ok (.bastore, 1) := by decide +kernel
theorem dX12_open_95 : decode cX12_open 95 = .ok (.aload_n 0, 1) := by decide +kernel
theorem dX12_open_96 : decode cX12_open 96 = .ok (.getfield 79, 3) := by decide +kernel
theorem dX12_open_99 : decode cX12_open 99 = .ok (.iload 4, 2) := by decide +kernel
theorem dX12_open_101 : decode cX12_open 101 = .ok (.iload_n 1, 1) := by decide +kernel
theorem dX12_open_102 : decode cX12_open 102 = .ok (.iastore, 1) := by decide +kernel
theorem dX12_open_103 : decode cX12_open 103 = .ok (.aload_n 0, 1) := by decide +kernel
theorem dX12_open_104 : decode cX12_open 104 = .ok (.getfield 82, 3) := by decide +kernel
theorem dX12_open_107 : decode cX12_open 107 = .ok (.iload 4, 2) := by decide +kernel
theorem dX12_open_109 : decode cX12_open 109 = .ok (.iload_n 2, 1) := by decide +kernel
theorem dX12_open_110 : decode cX12_open 110 = .ok (.iastore, 1) := by decide +kernel
theorem dX12_open_111 : decode cX12_open 111 = .ok (.aload_n 0, 1) := by decide +kernel
theorem dX12_open_112 : decode cX12_open 112 = .ok (.getfield 85, 3) := by decide +kernel
theorem dX12_open_115 : decode cX12_open 115 = .ok (.iload 4, 2) := by decide +kernel
theorem dX12_open_117 : decode cX12_open 117 = .ok (.aload_n 0, 1) := by decide +kernel
theorem dX12_open_118 : decode cX12_open 118 = .ok (.iload_n 3, 1) := by decide +kernel
theorem dX12_open_119 : decode cX12_open 119 = .ok (.invokevirtual 220, 3) := by decide +kernel
theorem dX12_open_122 : decode cX12_open 122 = .ok (.iastore, 1) := by decide +kernel
theorem dX12_open_123 : decode cX12_open 123 = .ok (.aload_n 0, 1) := by decide +kernel
theorem dX12_open_124 : decode cX12_open 124 = .ok (.getfield 88, 3) := by decide +kernel
theorem dX12_open_127 : decode cX12_open 127 = .ok (.iload 4, 2) := by decide +kernel
theorem dX12_open_129 : decode cX12_open 129 = .ok (.iconst (-1), 1) := by decide +kernel
theorem dX12_open_130 : decode cX12_open 130 = .ok (.iastore, 1) := by decide +kernel
theorem dX12_open_131 : decode cX12_open 131 = .ok (.aload_n 0, 1) := by decide +kernel
theorem dX12_open_132 : decode cX12_open 132 = .ok (.getfield 91, 3) := by decide +kernel
theorem dX12_open_135 : decode cX12_open 135 = .ok (.iload 4, 2) := by decide +kernel
theorem dX12_open_137 : decode cX12_open 137 = .ok (.iconst 0, 1) := by decide +kernel
theorem dX12_open_138 : decode cX12_open 138 = .ok (.iastore, 1) := by decide +kernel
theorem dX12_open_139 : decode cX12_open 139 = .ok (.iconst 0, 1) := by decide +kernel
theorem dX12_open_140 : decode cX12_open 140 = .ok (.istore 5, 2) := by decide +kernel
theorem dX12_open_142 : decode cX12_open 142 = .ok (.iload 5, 2) := by decide +kernel
theorem dX12_open_144 : decode cX12_open 144 = .ok (.iconst 4, 1) := by decide +kernel
theorem dX12_open_145 : decode cX12_open 145 = .ok (.if_icmp .ge 28, 3) := by decide +kernel
theorem dX12_open_148 : decode cX12_open 148 = .ok (.aload_n 0, 1) := by decide +kernel
theorem dX12_open_149 : decode cX12_open 149 = .ok (.getfield 94, 3) := by decide +kernel
theorem dX12_open_152 : decode cX12_open 152 = .ok (.iconst 4, 1) := by decide +kernel
theorem dX12_open_153 : decode cX12_open 153 = .ok (.iload 4, 2) := by decide +kernel
theorem dX12_open_155 : decode cX12_open 155 = .ok (.imul, 1) := by decide +kernel
theorem dX12_open_156 : decode cX12_open 156 = .ok (.iload 5, 2) := by decide +kernel
theorem dX12_open_158 : decode cX12_open 158 = .ok (.iadd, 1) := by decide +kernel
theorem dX12_open_159 : decode cX12_open 159 = .ok (.aload_n 0, 1) := by decide +kernel
theorem dX12_open_160 : decode cX12_open 160 = .ok (.getfield 17, 3) := by decide +kernel
theorem dX12_open_163 : decode cX12_open 163 = .ok (.iload 5, 2) := by decide +kernel
theorem dX12_open_165 : decode cX12_open 165 = .ok (.iaload, 1) := by decide +kernel
theorem dX12_open_166 : decode cX12_open 166 = .ok (.iastore, 1) := by decide +kernel
theorem dX12_open_167 : decode cX12_open 167 = .ok (.iinc 5 1, 3) := by decide +kernel
theorem dX12_open_170 : decode cX12_open 170 = .ok (.goto (-28), 3) := by decide +kernel
theorem dX12_open_173 : decode cX12_open 173 = .ok (.iload 4, 2) := by decide +kernel
theorem dX12_open_175 : decode cX12_open 175 = .ok (.ireturn, 1) := by decide +kernel
theorem i9wsX12_open_0 : ∀ w ∈ wsX12_open_r1, w ∈ wsX12_open := fun _ h => (List.mem_cons_of_mem _ (List.mem_append_left _ (List.mem_append_left _ h)))
set_option maxRecDepth 20000 in
theorem ggX12_open_X12_isMask : GoodIn wsX12_open wsX12_isMask := (gin_c (mem_at i9wsX12_open_0 13 rfl) rfl gin_n)
set_option maxRecDepth 20000 in
theorem gX12_open_X12_isMask : GoodIn wsX12_open (wsV RX12 207 RX12 yX12_isMask wsX12_isMask) := goodIn_app (gin_c (mem_at i9wsX12_open_0 9 rfl) rfl (gin_c (mem_at i9wsX12_open_0 10 rfl) rfl (gin_c (mem_at i9wsX12_open_0 11 rfl) rfl (gin_c (mem_at i9wsX12_open_0 12 rfl) rfl gin_n)))) ggX12_open_X12_isMask
theorem i9wsX12_open_2 : ∀ w ∈ wsX120, w ∈ wsX12_open := fun _ h => (List.mem_cons_of_mem _ (List.mem_append_right _ h))
set_option maxRecDepth 20000 in
theorem ggX12_open_X12_isTime : GoodIn wsX12_open wsX12_isTime := (gin_c (mem_at i9wsX12_open_0 17 rfl) rfl (goodIn_app (gin_c (mem_at i9wsX12_open_0 18 rfl) rfl (gin_c (mem_at i9wsX12_open_0 19 rfl) rfl gin_n)) (goodIn_sub i9wsX12_open_2 g9_16)))
set_option maxRecDepth 20000 in
theorem gX12_open_X12_isTime : GoodIn wsX12_open (wsV RX12 217 RX12 yX12_isTime wsX12_isTime) := goodIn_app (gin_c (mem_at i9wsX12_open_0 14 rfl) rfl (gin_c (mem_at i9wsX12_open_0 15 rfl) rfl (gin_c (mem_at i9wsX12_open_0 16 rfl) rfl (gin_c (mem_at i9wsX12_open_0 12 rfl) rfl gin_n)))) ggX12_open_X12_isTime
theorem i9wsX12_open_1 : ∀ w ∈ wsX12_open_r2, w ∈ wsX12_open := fun _ h => (List.mem_cons_of_mem _ (List.mem_append_left _ (List.mem_append_right _ h)))
set_option maxRecDepth 20000 in
theorem ggX12_open_X12_isTable : GoodIn wsX12_open wsX12_isTable := (gin_c (mem_at i9wsX12_open_0 23 rfl) rfl (goodIn_app (gin_c (mem_at i9wsX12_open_1 0 rfl) rfl gin_n) (goodIn_sub i9wsX12_open_2 g9_16)))
set_option maxRecDepth 20000 in
theorem gX12_open_X12_isTable : GoodIn wsX12_open (wsV RX12 153 RX12 yX12_isTable wsX12_isTable) := goodIn_app (gin_c (mem_at i9wsX12_open_0 20 rfl) rfl (gin_c (mem_at i9wsX12_open_0 21 rfl) rfl (gin_c (mem_at i9wsX12_open_0 22 rfl) rfl (gin_c (mem_at i9wsX12_open_0 12 rfl) rfl gin_n)))) ggX12_open_X12_isTable
set_option maxRecDepth 20000 in
theorem ggX12_open_X12_fails : GoodIn wsX12_open wsX12_fails := (gin_c (mem_at i9wsX12_open_1 4 rfl) rfl (goodIn_app (gin_c (mem_at i9wsX12_open_1 5 rfl) rfl gin_n) (goodIn_sub i9wsX12_open_2 g9_16)))
set_option maxRecDepth 20000 in
theorem gX12_open_X12_fails : GoodIn wsX12_open (wsV RX12 136 RX12 yX12_fails wsX12_fails) := goodIn_app (gin_c (mem_at i9wsX12_open_1 1 rfl) rfl (gin_c (mem_at i9wsX12_open_1 2 rfl) rfl (gin_c (mem_at i9wsX12_open_1 3 rfl) rfl (gin_c (mem_at i9wsX12_open_0 12 rfl) rfl gin_n)))) ggX12_open_X12_fails
set_option maxRecDepth 20000 in
theorem ggX12_open_X12_timeOf : GoodIn wsX12_open wsX12_timeOf := (gin_c (mem_at i9wsX12_open_1 9 rfl) rfl (goodIn_app (gin_c (mem_at i9wsX12_open_0 19 rfl) rfl gin_n) (goodIn_sub i9wsX12_open_2 g9_16)))
set_option maxRecDepth 20000 in
theorem gX12_open_X12_timeOf : GoodIn wsX12_open (wsV RX12 220 RX12 yX12_timeOf wsX12_timeOf) := goodIn_app (gin_c (mem_at i9wsX12_open_1 6 rfl) rfl (gin_c (mem_at i9wsX12_open_1 7 rfl) rfl (gin_c (mem_at i9wsX12_open_1 8 rfl) rfl (gin_c (mem_at i9wsX12_open_0 12 rfl) rfl gin_n)))) ggX12_open_X12_timeOf
set_option maxHeartbeats 4000000 in
set_option maxRecDepth 100000 in
theorem T_X12_open (l : Launch) (hl : l.stackTraces = false) (D : va_G) (cA : Nat → ClassId) {l0 : Option Nat} {l1 : Int32} {l2 : Int32} {l3 : Int32} {x : HS} {Q : Int32 → HS → Prop} {X : String → HS → Prop} (h : w_X12_open l0 l1 l2 l3 x Q X) : YI l yX12_open wsX12_open 1 21 D cA [.q l0, .i l1, .i l2, .i l3] x Q X := by
  refine YI.of (cc := cX12_open) (maxL := 6) (ret := (some .int)) hl (by decide) rfl rfl (fun g B fr => ?_)
  have o := B.o
  have hb := B.hb
  have hts := B.hts
  have hown : g.s.vm.findClass RX12 = some g.m.cls := B.hown
  have in12 : ∀ w ∈ u_ws RX12 TX12 57, w ∈ wsX12_open := fun w h => (List.mem_cons_of_mem _ (List.mem_append_right _ h))
  unfold w_X12_open at h
  show KW g 6 0 [(0, .q l0), (1, .i l1), (2, .i l2), (3, .i l3)] [] x
  refine k_iconst (v := 0) o hb dX12_open_0 (by decide) ?_
  refine k_istore o hb dX12_open_1 rfl ?_
  refine KW.sub [1, 2, 3, 4, 0] rfl ?_
  refine wLoop_elim (M := fun (v4 : Int32) (x3 : HS) => KW g 6 3 [(0, .q l0), (1, .i l1), (2, .i l2), (3, .i l3), (4, .i v4)] [] x3) h ?_
  intro v4 x3 again1 ih2 h
  refine k_iload o hb dX12_open_3 4 rfl ?_
  refine k_bipush (v := 10) o hb dX12_open_5 (by decide) ?_
  refine wJoin_elim (M := fun K => ∀  (x6 : HS), K  x6 → KW g 6 26 [(0, .q l0), (1, .i l1), (2, .i l2), (3, .i l3), (4, .i v4)] [] x6) h ?_ (fun j5 hj5 h => ?_)
  · skip
    intro  x6 h
    refine k_aload_n o hb dX12_open_26 rfl 0 rfl ?_
    refine k_aload_n o hb dX12_open_27 rfl 0 rfl ?_
    refine k_iload_n o hb dX12_open_28 rfl 2 rfl ?_
    refine k_run_i o (fun _ _ q => q) (k_runV (ci := 12) (rc := (RX12, TX12, 57)) o hb B.hml hown hts rfl (by decide) (T_X12_isMask g.l o.hl g.D g.cA h.2) (cwV 1 hts gX12_open_X12_isMask rfl rfl rfl (by decide +kernel) ⟨yle B.hR1 rfl, yle B.hR2 rfl⟩) h.1 rfl rfl (Nat.le_of_ble_eq_true rfl) dX12_open_29) (fun v8 x7 h => ?_)
    refine wJoin_elim (M := fun K => ∀ (v11 : Int32) (x10 : HS), K v11 x10 → KW g 6 71 [(0, .q l0), (1, .i l1), (2, .i l2), (3, .i l3), (4, .i v4)] [.i v11, .q l0] x10) h ?_ (fun j9 hj9 h => ?_)
    · skip
      intro v11 x10 h
      refine k_run_i o (fun _ _ q => q) (k_runV (ci := 12) (rc := (RX12, TX12, 57)) o hb B.hml hown hts rfl (by decide) (T_X12_fails g.l o.hl g.D g.cA h.2) (cwV 1 hts gX12_open_X12_fails rfl rfl rfl (by decide +kernel) ⟨yle B.hR1 rfl, yle B.hR2 rfl⟩) h.1 rfl rfl (Nat.le_of_ble_eq_true rfl) dX12_open_71) (fun v13 x12 h => ?_)
      refine k_if_eq (tgt := 79) o hb dX12_open_74 (by decide) h (fun h => ?_) (fun h => ?_)
      · skip
        refine k_aload_n o hb dX12_open_79 rfl 0 rfl ?_
        refine k_getF (C := RX12) (T := TX12) (N := 57) o hb hts in12 hown rfl (by decide) 28 (by decide) rfl (hts (.fieldLink RX12 73 "FactKeeperModel" "isOpen" "[Z") (by decide +kernel)) (fun _ h9 => h9) dX12_open_80 h (fun v14 h => ?_)
        refine k_iload o hb dX12_open_83 4 rfl ?_
        refine k_iconst (v := 1) o hb dX12_open_85 (by decide) ?_
        refine k_zast o hb dX12_open_86 h (fun x15 h => ?_)
        refine k_aload_n o hb dX12_open_87 rfl 0 rfl ?_
        refine k_getF (C := RX12) (T := TX12) (N := 57) o hb hts in12 hown rfl (by decide) 29 (by decide) rfl (hts (.fieldLink RX12 76 "FactKeeperModel" "isOver" "[Z") (by decide +kernel)) (fun _ h9 => h9) dX12_open_88 h (fun v16 h => ?_)
        refine k_iload o hb dX12_open_91 4 rfl ?_
        refine k_iconst (v := 0) o hb dX12_open_93 (by decide) ?_
        refine k_zast o hb dX12_open_94 h (fun x17 h => ?_)
        refine k_aload_n o hb dX12_open_95 rfl 0 rfl ?_
        refine k_getF (C := RX12) (T := TX12) (N := 57) o hb hts in12 hown rfl (by decide) 30 (by decide) rfl (hts (.fieldLink RX12 79 "FactKeeperModel" "cursorTable" "[I") (by decide +kernel)) (fun _ h9 => h9) dX12_open_96 h (fun v18 h => ?_)
        refine k_iload o hb dX12_open_99 4 rfl ?_
        refine k_iload_n o hb dX12_open_101 rfl 1 rfl ?_
        refine k_iast o hb dX12_open_102 h (fun x19 h => ?_)
        refine k_aload_n o hb dX12_open_103 rfl 0 rfl ?_
        refine k_getF (C := RX12) (T := TX12) (N := 57) o hb hts in12 hown rfl (by decide) 31 (by decide) rfl (hts (.fieldLink RX12 82 "FactKeeperModel" "cursorMask" "[I") (by decide +kernel)) (fun _ h9 => h9) dX12_open_104 h (fun v20 h => ?_)
        refine k_iload o hb dX12_open_107 4 rfl ?_
        refine k_iload_n o hb dX12_open_109 rfl 2 rfl ?_
        refine k_iast o hb dX12_open_110 h (fun x21 h => ?_)
        refine k_aload_n o hb dX12_open_111 rfl 0 rfl ?_
        refine k_getF (C := RX12) (T := TX12) (N := 57) o hb hts in12 hown rfl (by decide) 32 (by decide) rfl (hts (.fieldLink RX12 85 "FactKeeperModel" "cursorTime" "[I") (by decide +kernel)) (fun _ h9 => h9) dX12_open_112 h (fun v22 h => ?_)
        refine k_iload o hb dX12_open_115 4 rfl ?_
        refine k_aload_n o hb dX12_open_117 rfl 0 rfl ?_
        refine k_iload_n o hb dX12_open_118 rfl 3 rfl ?_
        refine k_run_i o (fun _ _ q => q) (k_runV (ci := 12) (rc := (RX12, TX12, 57)) o hb B.hml hown hts rfl (by decide) (T_X12_timeOf g.l o.hl g.D g.cA h.2) (cwV 1 hts gX12_open_X12_timeOf rfl rfl rfl (by decide +kernel) ⟨yle B.hR1 rfl, yle B.hR2 rfl⟩) h.1 rfl rfl (Nat.le_of_ble_eq_true rfl) dX12_open_119) (fun v24 x23 h => ?_)
        refine k_iast o hb dX12_open_122 h (fun x25 h => ?_)
        refine k_aload_n o hb dX12_open_123 rfl 0 rfl ?_
        refine k_getF (C := RX12) (T := TX12) (N := 57) o hb hts in12 hown rfl (by decide) 33 (by decide) rfl (hts (.fieldLink RX12 88 "FactKeeperModel" "cursorLast" "[I") (by decide +kernel)) (fun _ h9 => h9) dX12_open_124 h (fun v26 h => ?_)
        refine k_iload o hb dX12_open_127 4 rfl ?_
        refine k_iconst (v := (-1)) o hb dX12_open_129 (by decide) ?_
        refine k_iast o hb dX12_open_130 h (fun x27 h => ?_)
        refine k_aload_n o hb dX12_open_131 rfl 0 rfl ?_
        refine k_getF (C := RX12) (T := TX12) (N := 57) o hb hts in12 hown rfl (by decide) 34 (by decide) rfl (hts (.fieldLink RX12 91 "FactKeeperModel" "cursorTold" "[I") (by decide +kernel)) (fun _ h9 => h9) dX12_open_132 h (fun v28 h => ?_)
        refine k_iload o hb dX12_open_135 4 rfl ?_
        refine k_iconst (v := 0) o hb dX12_open_137 (by decide) ?_
        refine k_iast o hb dX12_open_138 h (fun x29 h => ?_)
        refine k_iconst (v := 0) o hb dX12_open_139 (by decide) ?_
        refine k_istore o hb dX12_open_140 rfl ?_
        refine KW.sub [1, 5, 0] rfl ?_
        refine wLoop_elim (M := fun (v33 : Int32) (x32 : HS) => KW g 6 142 [(0, .q l0), (4, .i v4), (5, .i v33)] [] x32) h ?_
        intro v33 x32 again30 ih31 h
        refine k_iload o hb dX12_open_142 2 rfl ?_
        refine k_iconst (v := 4) o hb dX12_open_144 (by decide) ?_
        refine k_icmp_ge (tgt := 173) o hb dX12_open_145 (by decide) h (fun h => ?_) (fun h => ?_)
        · skip
          refine k_iload o hb dX12_open_173 1 rfl ?_
          exact k_iret o hb B.hr fr dX12_open_175 h
        · skip
          refine k_aload_n o hb dX12_open_148 rfl 0 rfl ?_
          refine k_getF (C := RX12) (T := TX12) (N := 57) o hb hts in12 hown rfl (by decide) 35 (by decide) rfl (hts (.fieldLink RX12 94 "FactKeeperModel" "cursorValues" "[I") (by decide +kernel)) (fun _ h9 => h9) dX12_open_149 h (fun v34 h => ?_)
          refine k_iconst (v := 4) o hb dX12_open_152 (by decide) ?_
          refine k_iload o hb dX12_open_153 1 rfl ?_
          refine k_imul o hb dX12_open_155 ?_
          refine k_iload o hb dX12_open_156 2 rfl ?_
          refine k_iadd o hb dX12_open_158 ?_
          refine k_aload_n o hb dX12_open_159 rfl 0 rfl ?_
          refine k_getF (C := RX12) (T := TX12) (N := 57) o hb hts in12 hown rfl (by decide) 3 (by decide) rfl (hts (.fieldLink RX12 17 "FactKeeperModel" "values" "[I") (by decide +kernel)) (fun _ h9 => h9) dX12_open_160 h (fun v35 h => ?_)
          refine k_iload o hb dX12_open_163 2 rfl ?_
          refine k_iald o hb dX12_open_165 h (fun v36 h => ?_)
          refine k_iast o hb dX12_open_166 h (fun x37 h => ?_)
          refine k_iinc (w := 1) o hb dX12_open_167 2 rfl (by decide) rfl ?_
          refine k_goto (tgt := 142) o hb dX12_open_170 (by decide) ?_
          exact KW.sub [1, 2, 0] rfl (ih31 (v33 + 1) x37 h)
      · skip
        refine k_iconst (v := 0) o hb dX12_open_77 (by decide) ?_
        exact k_iret o hb B.hr fr dX12_open_78 h
    · skip
      refine wJoin_elim (M := fun K => ∀  (x39 : HS), K  x39 → KW g 6 43 [(0, .q l0), (1, .i l1), (2, .i l2), (3, .i l3), (4, .i v4)] [.q l0] x39) h ?_ (fun j38 hj38 h => ?_)
      · skip
        intro  x39 h
        refine k_iconst (v := 1) o hb dX12_open_43 (by decide) ?_
        refine k_goto (tgt := 71) o hb dX12_open_44 (by decide) ?_
        exact KW.sub [0, 1, 2, 3, 4] rfl (hj9 1 x39 h)
      · skip
        refine k_if_eq (tgt := 43) o hb dX12_open_32 (by decide) h (fun h => ?_) (fun h => ?_)
        · skip
          exact KW.sub [0, 1, 2, 3, 4] rfl (hj38 x7 h)
        · skip
          refine k_aload_n o hb dX12_open_35 rfl 0 rfl ?_
          refine k_iload_n o hb dX12_open_36 rfl 3 rfl ?_
          refine k_run_i o (fun _ _ q => q) (k_runV (ci := 12) (rc := (RX12, TX12, 57)) o hb B.hml hown hts rfl (by decide) (T_X12_isTime g.l o.hl g.D g.cA h.2) (cwV 1 hts gX12_open_X12_isTime rfl rfl rfl (by decide +kernel) ⟨yle B.hR1 rfl, yle B.hR2 rfl⟩) h.1 rfl rfl (Nat.le_of_ble_eq_true rfl) dX12_open_37) (fun v41 x40 h => ?_)
          refine k_if_ne (tgt := 47) o hb dX12_open_40 (by decide) h (fun h => ?_) (fun h => ?_)
          · skip
            exact KW.sub [0, 1, 2, 3, 4] rfl (hj38 x40 h)
          · skip
            refine k_aload_n o hb dX12_open_47 rfl 0 rfl ?_
            refine k_iload_n o hb dX12_open_48 rfl 1 rfl ?_
            refine k_run_i o (fun _ _ q => q) (k_runV (ci := 12) (rc := (RX12, TX12, 57)) o hb B.hml hown hts rfl (by decide) (T_X12_isTable g.l o.hl g.D g.cA h.2) (cwV 1 hts gX12_open_X12_isTable rfl rfl rfl (by decide +kernel) ⟨yle B.hR1 rfl, yle B.hR2 rfl⟩) h.1 rfl rfl (Nat.le_of_ble_eq_true rfl) dX12_open_49) (fun v43 x42 h => ?_)
            refine k_if_ne (tgt := 59) o hb dX12_open_52 (by decide) h (fun h => ?_) (fun h => ?_)
            · skip
              refine k_iconst (v := 2) o hb dX12_open_55 (by decide) ?_
              refine k_goto (tgt := 71) o hb dX12_open_56 (by decide) ?_
              exact KW.sub [0, 1, 2, 3, 4] rfl (hj9 2 x42 h)
            · skip
              refine k_iload o hb dX12_open_59 4 rfl ?_
              refine k_bipush (v := 10) o hb dX12_open_61 (by decide) ?_
              refine k_icmp_ne (tgt := 70) o hb dX12_open_63 (by decide) h (fun h => ?_) (fun h => ?_)
              · skip
                refine k_iconst (v := 3) o hb dX12_open_66 (by decide) ?_
                refine k_goto (tgt := 71) o hb dX12_open_67 (by decide) ?_
                exact KW.sub [0, 1, 2, 3, 4] rfl (hj9 3 x42 h)
              · skip
                refine k_iconst (v := 0) o hb dX12_open_70 (by decide) ?_
                exact KW.sub [0, 1, 2, 3, 4] rfl (hj9 0 x42 h)
  · skip
    refine k_icmp_ge (tgt := 26) o hb dX12_open_7 (by decide) h (fun h => ?_) (fun h => ?_)
    · skip
      exact KW.sub [0, 1, 2, 3, 4] rfl (hj5 x3 h)
    · skip
      refine k_aload_n o hb dX12_open_10 rfl 0 rfl ?_
      refine k_getF (C := RX12) (T := TX12) (N := 57) o hb hts in12 hown rfl (by decide) 28 (by decide) rfl (hts (.fieldLink RX12 73 "FactKeeperModel" "isOpen" "[Z") (by decide +kernel)) (fun _ h9 => h9) dX12_open_11 h (fun v44 h => ?_)
      refine k_iload o hb dX12_open_14 4 rfl ?_
      refine k_zald o hb dX12_open_16 h (fun v45 h => ?_)
      refine k_if_eq (tgt := 26) o hb dX12_open_17 (by decide) h (fun h => ?_) (fun h => ?_)
      · skip
        exact KW.sub [0, 1, 2, 3, 4] rfl (hj5 x3 h)
      · skip
        refine k_iinc (w := 1) o hb dX12_open_20 4 rfl (by decide) rfl ?_
        refine k_goto (tgt := 3) o hb dX12_open_23 (by decide) ?_
        exact KW.sub [1, 2, 3, 4, 0] rfl (ih2 (v4 + 1) x3 h)
theorem dX12_wrongCursor_0 : decode cX12_wrongCursor 0 = .ok (.iload_n 1, 1) := by decide +kernel
theorem dX12_wrongCursor_1 : decode cX12_wrongCursor 1 = .ok (.ifCond .lt 9, 3) := by decide +kernel
theorem dX12_wrongCursor_4 : decode cX12_wrongCursor 4 = .ok (.iload_n 1, 1) := by decide +kernel
theorem dX12_wrongCursor_5 : decode cX12_wrongCursor 5 = .ok (.bipush 10, 2) := by decide +kernel
theorem dX12_wrongCursor_7 : decode cX12_wrongCursor 7 = .ok (.if_icmp .lt 7, 3) := by decide +kernel
theorem dX12_wrongCursor_10 : decode cX12_wrongCursor 10 = .ok (.iconst 1, 1) := by decide +kernel
theorem dX12_wrongCursor_11 : decode cX12_wrongCursor 11 = .ok (.goto 17, 3) := by decide +kernel
theorem dX12_wrongCursor_14 : decode cX12_wrongCursor 14 = .ok (.aload_n 0, 1) := by decide +kernel
theorem dX12_wrongCursor_15 : decode cX12_wrongCursor 15 = .ok (.getfield 73, 3) := by decide +kernel
theorem dX12_wrongCursor_18 : decode cX12_wrongCursor 18 = .ok (.iload_n 1, 1) := by decide +kernel
theorem dX12_wrongCursor_19 : decode cX12_wrongCursor 19 = .ok (.baload, 1) := by decide +kernel
theorem dX12_wrongCursor_20 : decode cX12_wrongCursor 20 = .ok (.ifCond .ne 7, 3) := by decide +kernel
theorem dX12_wrongCursor_23 : decode cX12_wrongCursor 23 = .ok (.iconst 2, 1) := by decide +kernel
theorem dX12_wrongCursor_24 : decode cX12_wrongCursor 24 = .ok (.goto 4, 3) := by decide +kernel
theorem dX12_wrongCursor_27 : decode cX12_wrongCursor 27 = .ok (.iconst 0, 1) := by decide +kernel
theorem dX12_wrongCursor_28 : decode cX12_wrongCursor 28 = .ok (.ireturn, 1) := by decide +kernel
set_option maxHeartbeats 4000000 in
set_option maxRecDepth 100000 in
theorem T_X12_wrongCursor (l : Launch) (hl : l.stackTraces = false) (D : va_G) (cA : Nat → ClassId) {l0 : Option Nat} {l1 : Int32} {x : HS} {Q : Int32 → HS → Prop} {X : String → HS → Prop} (h : w_X12_wrongCursor l0 l1 x Q X) : YI l yX12_wrongCursor wsX12_wrongCursor 0 0 D cA [.q l0, .i l1] x Q X := by
  refine YI.of (cc := cX12_wrongCursor) (maxL := 2) (ret := (some .int)) hl (by decide) rfl rfl (fun g B fr => ?_)
  have o := B.o
  have hb := B.hb
  have hts := B.hts
  have hown : g.s.vm.findClass RX12 = some g.m.cls := B.hown
  have in12 : ∀ w ∈ u_ws RX12 TX12 57, w ∈ wsX12_wrongCursor := fun w h => (List.mem_cons_of_mem _ (List.mem_append_right _ h))
  unfold w_X12_wrongCursor at h
  show KW g 2 0 [(0, .q l0), (1, .i l1)] [] x
  refine k_iload_n o hb dX12_wrongCursor_0 rfl 1 rfl ?_
  refine wJoin_elim (M := fun K => ∀ (v3 : Int32) (x2 : HS), K v3 x2 → KW g 2 28 [] [.i v3] x2) h ?_ (fun j1 hj1 h => ?_)
  · skip
    intro v3 x2 h
    exact k_iret o hb B.hr fr dX12_wrongCursor_28 h
  · skip
    refine wJoin_elim (M := fun K => ∀  (x5 : HS), K  x5 → KW g 2 10 [] [] x5) h ?_ (fun j4 hj4 h => ?_)
    · skip
      intro  x5 h
      refine k_iconst (v := 1) o hb dX12_wrongCursor_10 (by decide) ?_
      refine k_goto (tgt := 28) o hb dX12_wrongCursor_11 (by decide) ?_
      exact KW.sub [] rfl (hj1 1 x5 h)
    · skip
      refine k_if_lt (tgt := 10) o hb dX12_wrongCursor_1 (by decide) h (fun h => ?_) (fun h => ?_)
      · skip
        exact KW.sub [] rfl (hj4 x h)
      · skip
        refine k_iload_n o hb dX12_wrongCursor_4 rfl 1 rfl ?_
        refine k_bipush (v := 10) o hb dX12_wrongCursor_5 (by decide) ?_
        refine k_icmp_lt (tgt := 14) o hb dX12_wrongCursor_7 (by decide) h (fun h => ?_) (fun h => ?_)
        · skip
          refine k_aload_n o hb dX12_wrongCursor_14 rfl 0 rfl ?_
          refine k_getF (C := RX12) (T := TX12) (N := 57) o hb hts in12 hown rfl (by decide) 28 (by decide) rfl (hts (.fieldLink RX12 73 "FactKeeperModel" "isOpen" "[Z") (by decide +kernel)) (fun _ h9 => h9) dX12_wrongCursor_15 h (fun v6 h => ?_)
          refine k_iload_n o hb dX12_wrongCursor_18 rfl 1 rfl ?_
          refine k_zald o hb dX12_wrongCursor_19 h (fun v7 h => ?_)
          refine k_if_ne (tgt := 27) o hb dX12_wrongCursor_20 (by decide) h (fun h => ?_) (fun h => ?_)
          · skip
            refine k_iconst (v := 2) o hb dX12_wrongCursor_23 (by decide) ?_
            refine k_goto (tgt := 28) o hb dX12_wrongCursor_24 (by decide) ?_
            exact KW.sub [] rfl (hj1 2 x h)
          · skip
            refine k_iconst (v := 0) o hb dX12_wrongCursor_27 (by decide) ?_
            exact KW.sub [] rfl (hj1 0 x h)
        · skip
          exact KW.sub [] rfl (hj4 x h)
theorem dX12_next_0 : decode cX12_next 0 = .ok (.aload_n 0, 1) := by decide +kernel
theorem dX12_next_1 : decode cX12_next 1 = .ok (.aload_n 0, 1) := by decide +kernel
theorem dX12_next_2 : decode cX12_next 2 = .ok (.iload_n 1, 1) := by decide +kernel
theorem dX12_next_3 : decode cX12_next 3 = .ok (.invokevirtual 223, 3) := by decide +kernel
theorem dX12_next_6 : decode cX12_next 6 = .ok (.invokevirtual 136, 3) := by decide +kernel
theorem dX12_next_9 : decode cX12_next 9 = .ok (.ifCond .eq 5, 3) := by decide +kernel
theorem dX12_next_12 : decode cX12_next 12 = .ok (.iconst 0, 1) := by decide +kernel
theorem dX12_next_13 : decode cX12_next 13 = .ok (.ireturn, 1) := by decide +kernel
theorem dX12_next_14 : decode cX12_next 14 = .ok (.aload_n 0, 1) := by decide +kernel
theorem dX12_next_15 : decode cX12_next 15 = .ok (.iconst 0, 1) := by decide +kernel
theorem dX12_next_16 : decode cX12_next 16 = .ok (.putfield 168, 3) := by decide +kernel
theorem dX12_next_19 : decode cX12_next 19 = .ok (.aload_n 0, 1) := by decide +kernel
theorem dX12_next_20 : decode cX12_next 20 = .ok (.getfield 76, 3) := by decide +kernel
theorem dX12_next_23 : decode cX12_next 23 = .ok (.iload_n 1, 1) := by decide +kernel
theorem dX12_next_24 : decode cX12_next 24 = .ok (.baload, 1) := by decide +kernel
theorem dX12_next_25 : decode cX12_next 25 = .ok (.ifCond .eq 5, 3) := by decide +kernel
theorem dX12_next_28 : decode cX12_next 28 = .ok (.iconst (-1), 1) := by decide +kernel
theorem dX12_next_29 : decode cX12_next 29 = .ok (.ireturn, 1) := by decide +kernel
theorem dX12_next_30 : decode cX12_next 30 = .ok (.aload_n 0, 1) := by decide +kernel
theorem dX12_next_31 : decode cX12_next 31 = .ok (.getfield 79, 3) := by decide +kernel
theorem dX12_next_34 : decode cX12_next 34 = .ok (.iload_n 1, 1) := by decide +kernel
theorem dX12_next_35 : decode cX12_next 35 = .ok (.iaload, 1) := by decide +kernel
theorem dX12_next_36 : decode cX12_next 36 = .ok (.istore_n 2, 1) := by decide +kernel
theorem dX12_next_37 : decode cX12_next 37 = .ok (.aload_n 0, 1) := by decide +kernel
theorem dX12_next_38 : decode cX12_next 38 = .ok (.getfield 88, 3) := by decide +kernel
theorem dX12_next_41 : decode cX12_next 41 = .ok (.iload_n 1, 1) := by decide +kernel
theorem dX12_next_42 : decode cX12_next 42 = .ok (.iaload, 1) := by decide +kernel
theorem dX12_next_43 : decode cX12_next 43 = .ok (.ifCond .ge 12, 3) := by decide +kernel
theorem dX12_next_46 : decode cX12_next 46 = .ok (.aload_n 0, 1) := by decide +kernel
theorem dX12_next_47 : decode cX12_next 47 = .ok (.getfield 30, 3) := by decide +kernel
theorem dX12_next_50 : decode cX12_next 50 = .ok (.iload_n 2, 1) := by decide +kernel
theorem dX12_next_51 : decode cX12_next 51 = .ok (.iaload, 1) := by decide +kernel
theorem dX12_next_52 : decode cX12_next 52 = .ok (.goto 14, 3) := by decide +kernel
theorem dX12_next_55 : decode cX12_next 55 = .ok (.aload_n 0, 1) := by decide +kernel
theorem dX12_next_56 : decode cX12_next 56 = .ok (.getfield 61, 3) := by decide +kernel
theorem dX12_next_59 : decode cX12_next 59 = .ok (.aload_n 0, 1) := by decide +kernel
theorem dX12_next_60 : decode cX12_next 60 = .ok (.getfield 88, 3) := by decide +kernel
theorem dX12_next_63 : decode cX12_next 63 = .ok (.iload_n 1, 1) := by decide +kernel
theorem dX12_next_64 : decode cX12_next 64 = .ok (.iaload, 1) := by decide +kernel
theorem dX12_next_65 : decode cX12_next 65 = .ok (.iaload, 1) := by decide +kernel
theorem dX12_next_66 : decode cX12_next 66 = .ok (.istore_n 3, 1) := by decide +kernel
theorem dX12_next_67 : decode cX12_next 67 = .ok (.aload_n 0, 1) := by decide +kernel
theorem dX12_next_68 : decode cX12_next 68 = .ok (.iload_n 2, 1) := by decide +kernel
theorem dX12_next_69 : decode cX12_next 69 = .ok (.iload_n 3, 1) := by decide +kernel
theorem dX12_next_70 : decode cX12_next 70 = .ok (.aload_n 0, 1) := by decide +kernel
theorem dX12_next_71 : decode cX12_next 71 = .ok (.getfield 82, 3) := by decide +kernel
theorem dX12_next_74 : decode cX12_next 74 = .ok (.iload_n 1, 1) := by decide +kernel
theorem dX12_next_75 : decode cX12_next 75 = .ok (.iaload, 1) := by decide +kernel
theorem dX12_next_76 : decode cX12_next 76 = .ok (.aload_n 0, 1) := by decide +kernel
theorem dX12_next_77 : decode cX12_next 77 = .ok (.getfield 85, 3) := by decide +kernel
theorem dX12_next_80 : decode cX12_next 80 = .ok (.iload_n 1, 1) := by decide +kernel
theorem dX12_next_81 : decode cX12_next 81 = .ok (.iaload, 1) := by decide +kernel
theorem dX12_next_82 : decode cX12_next 82 = .ok (.aload_n 0, 1) := by decide +kernel
theorem dX12_next_83 : decode cX12_next 83 = .ok (.getfield 94, 3) := by decide +kernel
theorem dX12_next_86 : decode cX12_next 86 = .ok (.iconst 4, 1) := by decide +kernel
theorem dX12_next_87 : decode cX12_next 87 = .ok (.iload_n 1, 1) := by decide +kernel
theorem dX12_next_88 : decode cX12_next 88 = .ok (.imul, 1) := by decide +kernel
theorem dX12_next_89 : decode cX12_next 89 = .ok (.invokevirtual 210, 3) := by decide +kernel
theorem dX12_next_92 : decode cX12_next 92 = .ok (.istore 4, 2) := by decide +kernel
theorem dX12_next_94 : decode cX12_next 94 = .ok (.iload 4, 2) := by decide +kernel
theorem dX12_next_96 : decode cX12_next 96 = .ok (.ifCond .ge 12, 3) := by decide +kernel
theorem dX12_next_99 : decode cX12_next 99 = .ok (.aload_n 0, 1) := by decide +kernel
theorem dX12_next_100 : decode cX12_next 100 = .ok (.getfield 76, 3) := by decide +kernel
theorem dX12_next_103 : decode cX12_next 103 = .ok (.iload_n 1, 1) := by decide +kernel
theorem dX12_next_104 : decode cX12_next 104 = .ok (.iconst 1, 1) := by decide +kernel
theorem dX12_next_105 : decode cX12_next 105 = .ok (.bastore, 1) := by decide +kernel
theorem dX12_next_106 : decode cX12_next 106 = .ok (.iconst (-1), 1) := by decide +kernel
theorem dX12_next_107 : decode cX12_next 107 = .ok (.ireturn, 1) := by decide +kernel
theorem dX12_next_108 : decode cX12_next 108 = .ok (.aload_n 0, 1) := by decide +kernel
theorem dX12_next_109 : decode cX12_next 109 = .ok (.getfield 88, 3) := by decide +kernel
theorem dX12_next_112 : decode cX12_next 112 = .ok (.iload_n 1, 1) := by decide +kernel
theorem dX12_next_113 : decode cX12_next 113 = .ok (.iload 4, 2) := by decide +kernel
theorem dX12_next_115 : decode cX12_next 115 = .ok (.iastore, 1) := by decide +kernel
theorem dX12_next_116 : decode cX12_next 116 = .ok (.aload_n 0, 1) := by decide +kernel
theorem dX12_next_117 : decode cX12_next 117 = .ok (.getfield 91, 3) := by decide +kernel
theorem dX12_next_120 : decode cX12_next 120 = .ok (.iload_n 1, 1) := by decide +kernel
theorem dX12_next_121 : decode cX12_next 121 = .ok (.dup2, 1) := by decide +kernel
theorem dX12_next_122 : decode cX12_next 122 = .ok (.iaload, 1) := by decide +kernel
theorem dX12_next_123 : decode cX12_next 123 = .ok (.iconst 1, 1) := by decide +kernel
theorem dX12_next_124 : decode cX12_next 124 = .ok (.iadd, 1) := by decide +kernel
theorem dX12_next_125 : decode cX12_next 125 = .ok (.iastore, 1) := by decide +kernel
theorem dX12_next_126 : decode cX12_next 126 = .ok (.aload_n 0, 1) := by decide +kernel
theorem dX12_next_127 : decode cX12_next 127 = .ok (.getfield 49, 3) := by decide +kernel
theorem dX12_next_130 : decode cX12_next 130 = .ok (.iload 4, 2) := by decide +kernel
theorem dX12_next_132 : decode cX12_next 132 = .ok (.iaload, 1) := by decide +kernel
theorem dX12_next_133 : decode cX12_next 133 = .ok (.ireturn, 1) := by decide +kernel
theorem i9wsX12_next_0 : ∀ w ∈ wsX12_next_r1, w ∈ wsX12_next := fun _ h => (List.mem_cons_of_mem _ (List.mem_append_left _ (List.mem_append_left _ h)))
theorem i9wsX12_next_2 : ∀ w ∈ wsX120, w ∈ wsX12_next := fun _ h => (List.mem_cons_of_mem _ (List.mem_append_right _ h))
set_option maxRecDepth 20000 in
theorem ggX12_next_X12_wrongCursor : GoodIn wsX12_next wsX12_wrongCursor := (gin_c (mem_at i9wsX12_next_0 15 rfl) rfl (goodIn_app (gin_c (mem_at i9wsX12_next_0 16 rfl) rfl gin_n) (goodIn_sub i9wsX12_next_2 g9_16)))
set_option maxRecDepth 20000 in
theorem gX12_next_X12_wrongCursor : GoodIn wsX12_next (wsV RX12 223 RX12 yX12_wrongCursor wsX12_wrongCursor) := goodIn_app (gin_c (mem_at i9wsX12_next_0 11 rfl) rfl (gin_c (mem_at i9wsX12_next_0 12 rfl) rfl (gin_c (mem_at i9wsX12_next_0 13 rfl) rfl (gin_c (mem_at i9wsX12_next_0 14 rfl) rfl gin_n)))) ggX12_next_X12_wrongCursor
set_option maxRecDepth 20000 in
theorem ggX12_next_X12_fails : GoodIn wsX12_next wsX12_fails := (gin_c (mem_at i9wsX12_next_0 20 rfl) rfl (goodIn_app (gin_c (mem_at i9wsX12_next_0 21 rfl) rfl gin_n) (goodIn_sub i9wsX12_next_2 g9_16)))
set_option maxRecDepth 20000 in
theorem gX12_next_X12_fails : GoodIn wsX12_next (wsV RX12 136 RX12 yX12_fails wsX12_fails) := goodIn_app (gin_c (mem_at i9wsX12_next_0 17 rfl) rfl (gin_c (mem_at i9wsX12_next_0 18 rfl) rfl (gin_c (mem_at i9wsX12_next_0 19 rfl) rfl (gin_c (mem_at i9wsX12_next_0 14 rfl) rfl gin_n)))) ggX12_next_X12_fails
theorem i9wsX12_next_1 : ∀ w ∈ wsX12_next_r2, w ∈ wsX12_next := fun _ h => (List.mem_cons_of_mem _ (List.mem_append_left _ (List.mem_append_right _ h)))
set_option maxRecDepth 20000 in
theorem ggX12_next_X12_seek : GoodIn wsX12_next wsX12_seek := (gin_c (mem_at i9wsX12_next_1 1 rfl) rfl (goodIn_app (gin_c (mem_at i9wsX12_next_1 2 rfl) rfl (gin_c (mem_at i9wsX12_next_0 0 rfl) rfl (gin_c (mem_at i9wsX12_next_1 3 rfl) rfl (gin_c (mem_at i9wsX12_next_1 4 rfl) rfl (gin_c (mem_at i9wsX12_next_0 5 rfl) rfl (gin_c (mem_at i9wsX12_next_1 5 rfl) rfl (gin_c (mem_at i9wsX12_next_1 6 rfl) rfl (gin_c (mem_at i9wsX12_next_1 7 rfl) rfl (gin_c (mem_at i9wsX12_next_0 14 rfl) rfl (gin_c (mem_at i9wsX12_next_1 8 rfl) rfl (gin_c (mem_at i9wsX12_next_1 9 rfl) rfl (gin_c (mem_at i9wsX12_next_1 10 rfl) rfl (gin_c (mem_at i9wsX12_next_1 11 rfl) rfl (gin_c (mem_at i9wsX12_next_1 12 rfl) rfl (gin_c (mem_at i9wsX12_next_1 13 rfl) rfl (gin_c (mem_at i9wsX12_next_1 14 rfl) rfl (gin_c (mem_at i9wsX12_next_1 15 rfl) rfl (gin_c (mem_at i9wsX12_next_1 16 rfl) rfl (gin_c (mem_at i9wsX12_next_1 17 rfl) rfl (gin_c (mem_at i9wsX12_next_1 18 rfl) rfl (gin_c (mem_at i9wsX12_next_1 19 rfl) rfl (gin_c (mem_at i9wsX12_next_1 20 rfl) rfl (gin_c (mem_at i9wsX12_next_1 21 rfl) rfl gin_n))))))))))))))))))))))) (goodIn_sub i9wsX12_next_2 g9_16)))
set_option maxRecDepth 20000 in
theorem gX12_next_X12_seek : GoodIn wsX12_next (wsV RX12 210 RX12 yX12_seek wsX12_seek) := goodIn_app (gin_c (mem_at i9wsX12_next_0 22 rfl) rfl (gin_c (mem_at i9wsX12_next_0 23 rfl) rfl (gin_c (mem_at i9wsX12_next_1 0 rfl) rfl (gin_c (mem_at i9wsX12_next_0 14 rfl) rfl gin_n)))) ggX12_next_X12_seek
set_option maxHeartbeats 4000000 in
set_option maxRecDepth 100000 in
theorem T_X12_next (l : Launch) (hl : l.stackTraces = false) (D : va_G) (cA : Nat → ClassId) {l0 : Option Nat} {l1 : Int32} {x : HS} {Q : Int32 → HS → Prop} {X : String → HS → Prop} (h : w_X12_next l0 l1 x Q X) : YI l yX12_next wsX12_next 2 54 D cA [.q l0, .i l1] x Q X := by
  refine YI.of (cc := cX12_next) (maxL := 5) (ret := (some .int)) hl (by decide) rfl rfl (fun g B fr => ?_)
  have o := B.o
  have hb := B.hb
  have hts := B.hts
  have hown : g.s.vm.findClass RX12 = some g.m.cls := B.hown
  have in12 : ∀ w ∈ u_ws RX12 TX12 57, w ∈ wsX12_next := fun w h => (List.mem_cons_of_mem _ (List.mem_append_right _ h))
  unfold w_X12_next at h
  show KW g 5 0 [(0, .q l0), (1, .i l1)] [] x
  refine k_aload_n o hb dX12_next_0 rfl 0 rfl ?_
  refine k_aload_n o hb dX12_next_1 rfl 0 rfl ?_
  refine k_iload_n o hb dX12_next_2 rfl 1 rfl ?_
  refine k_run_i o (fun _ _ q => q) (k_runV (ci := 12) (rc := (RX12, TX12, 57)) o hb B.hml hown hts rfl (by decide) (T_X12_wrongCursor g.l o.hl g.D g.cA h.2) (cwV 1 hts gX12_next_X12_wrongCursor rfl rfl rfl (by decide +kernel) ⟨yle B.hR1 rfl, yle B.hR2 rfl⟩) h.1 rfl rfl (Nat.le_of_ble_eq_true rfl) dX12_next_3) (fun v2 x1 h => ?_)
  refine k_run_i o (fun _ _ q => q) (k_runV (ci := 12) (rc := (RX12, TX12, 57)) o hb B.hml hown hts rfl (by decide) (T_X12_fails g.l o.hl g.D g.cA h.2) (cwV 1 hts gX12_next_X12_fails rfl rfl rfl (by decide +kernel) ⟨yle B.hR1 rfl, yle B.hR2 rfl⟩) h.1 rfl rfl (Nat.le_of_ble_eq_true rfl) dX12_next_6) (fun v4 x3 h => ?_)
  refine k_if_eq (tgt := 14) o hb dX12_next_9 (by decide) h (fun h => ?_) (fun h => ?_)
  · skip
    refine k_aload_n o hb dX12_next_14 rfl 0 rfl ?_
    refine k_iconst (v := 0) o hb dX12_next_15 (by decide) ?_
    refine k_putI (C := RX12) (T := TX12) (N := 57) (ty := .int) o hb hts in12 tyX12 tyX12_ok nmX12 hown rfl (by decide) 38 (by decide) rfl (hts (.fieldLink RX12 168 "FactKeeperModel" "looked" "I") (by decide +kernel)) (fun _ h9 => h9) rfl (by decide +kernel) (fun _ => rfl) (fun _ => rfl) dX12_next_16 h (fun x5 h => ?_)
    refine k_aload_n o hb dX12_next_19 rfl 0 rfl ?_
    refine k_getF (C := RX12) (T := TX12) (N := 57) o hb hts in12 hown rfl (by decide) 29 (by decide) rfl (hts (.fieldLink RX12 76 "FactKeeperModel" "isOver" "[Z") (by decide +kernel)) (fun _ h9 => h9) dX12_next_20 h (fun v6 h => ?_)
    refine k_iload_n o hb dX12_next_23 rfl 1 rfl ?_
    refine k_zald o hb dX12_next_24 h (fun v7 h => ?_)
    refine k_if_eq (tgt := 30) o hb dX12_next_25 (by decide) h (fun h => ?_) (fun h => ?_)
    · skip
      refine k_aload_n o hb dX12_next_30 rfl 0 rfl ?_
      refine k_getF (C := RX12) (T := TX12) (N := 57) o hb hts in12 hown rfl (by decide) 30 (by decide) rfl (hts (.fieldLink RX12 79 "FactKeeperModel" "cursorTable" "[I") (by decide +kernel)) (fun _ h9 => h9) dX12_next_31 h (fun v8 h => ?_)
      refine k_iload_n o hb dX12_next_34 rfl 1 rfl ?_
      refine k_iald o hb dX12_next_35 h (fun v9 h => ?_)
      refine k_istore_n o hb dX12_next_36 rfl rfl ?_
      refine k_aload_n o hb dX12_next_37 rfl 1 rfl ?_
      refine k_getF (C := RX12) (T := TX12) (N := 57) o hb hts in12 hown rfl (by decide) 33 (by decide) rfl (hts (.fieldLink RX12 88 "FactKeeperModel" "cursorLast" "[I") (by decide +kernel)) (fun _ h9 => h9) dX12_next_38 h (fun v10 h => ?_)
      refine k_iload_n o hb dX12_next_41 rfl 2 rfl ?_
      refine k_iald o hb dX12_next_42 h (fun v11 h => ?_)
      refine wJoin_elim (M := fun K => ∀ (v14 : Int32) (x13 : HS), K v14 x13 → KW g 5 66 [(0, .q l0), (1, .i l1), (2, .i v9)] [.i v14] x13) h ?_ (fun j12 hj12 h => ?_)
      · skip
        intro v14 x13 h
        refine k_istore_n o hb dX12_next_66 rfl rfl ?_
        refine k_aload_n o hb dX12_next_67 rfl 1 rfl ?_
        refine k_iload_n o hb dX12_next_68 rfl 3 rfl ?_
        refine k_iload_n o hb dX12_next_69 rfl 0 rfl ?_
        refine k_aload_n o hb dX12_next_70 rfl 1 rfl ?_
        refine k_getF (C := RX12) (T := TX12) (N := 57) o hb hts in12 hown rfl (by decide) 31 (by decide) rfl (hts (.fieldLink RX12 82 "FactKeeperModel" "cursorMask" "[I") (by decide +kernel)) (fun _ h9 => h9) dX12_next_71 h (fun v15 h => ?_)
        refine k_iload_n o hb dX12_next_74 rfl 2 rfl ?_
        refine k_iald o hb dX12_next_75 h (fun v16 h => ?_)
        refine k_aload_n o hb dX12_next_76 rfl 1 rfl ?_
        refine k_getF (C := RX12) (T := TX12) (N := 57) o hb hts in12 hown rfl (by decide) 32 (by decide) rfl (hts (.fieldLink RX12 85 "FactKeeperModel" "cursorTime" "[I") (by decide +kernel)) (fun _ h9 => h9) dX12_next_77 h (fun v17 h => ?_)
        refine k_iload_n o hb dX12_next_80 rfl 2 rfl ?_
        refine k_iald o hb dX12_next_81 h (fun v18 h => ?_)
        refine k_aload_n o hb dX12_next_82 rfl 1 rfl ?_
        refine k_getF (C := RX12) (T := TX12) (N := 57) o hb hts in12 hown rfl (by decide) 35 (by decide) rfl (hts (.fieldLink RX12 94 "FactKeeperModel" "cursorValues" "[I") (by decide +kernel)) (fun _ h9 => h9) dX12_next_83 h (fun v19 h => ?_)
        refine k_iconst (v := 4) o hb dX12_next_86 (by decide) ?_
        refine k_iload_n o hb dX12_next_87 rfl 2 rfl ?_
        refine k_imul o hb dX12_next_88 ?_
        refine k_run_i o (fun _ _ q => q) (k_runV (ci := 12) (rc := (RX12, TX12, 57)) o hb B.hml hown hts rfl (by decide) (T_X12_seek g.l o.hl g.D g.cA h.2) (cwV 6 hts gX12_next_X12_seek rfl rfl rfl (by decide +kernel) ⟨yle B.hR1 rfl, yle B.hR2 rfl⟩) h.1 rfl rfl (Nat.le_of_ble_eq_true rfl) dX12_next_89) (fun v21 x20 h => ?_)
        refine k_istore o hb dX12_next_92 rfl ?_
        refine k_iload o hb dX12_next_94 0 rfl ?_
        refine k_if_ge (tgt := 108) o hb dX12_next_96 (by decide) h (fun h => ?_) (fun h => ?_)
        · skip
          refine k_aload_n o hb dX12_next_108 rfl 2 rfl ?_
          refine k_getF (C := RX12) (T := TX12) (N := 57) o hb hts in12 hown rfl (by decide) 33 (by decide) rfl (hts (.fieldLink RX12 88 "FactKeeperModel" "cursorLast" "[I") (by decide +kernel)) (fun _ h9 => h9) dX12_next_109 h (fun v22 h => ?_)
          refine k_iload_n o hb dX12_next_112 rfl 3 rfl ?_
          refine k_iload o hb dX12_next_113 0 rfl ?_
          refine k_iast o hb dX12_next_115 h (fun x23 h => ?_)
          refine k_aload_n o hb dX12_next_116 rfl 2 rfl ?_
          refine k_getF (C := RX12) (T := TX12) (N := 57) o hb hts in12 hown rfl (by decide) 34 (by decide) rfl (hts (.fieldLink RX12 91 "FactKeeperModel" "cursorTold" "[I") (by decide +kernel)) (fun _ h9 => h9) dX12_next_117 h (fun v24 h => ?_)
          refine k_iload_n o hb dX12_next_120 rfl 3 rfl ?_
          refine k_dup2 o hb dX12_next_121 ?_
          refine k_iald o hb dX12_next_122 h (fun v25 h => ?_)
          refine k_iconst (v := 1) o hb dX12_next_123 (by decide) ?_
          refine k_iadd o hb dX12_next_124 ?_
          refine k_iast o hb dX12_next_125 h (fun x26 h => ?_)
          refine k_aload_n o hb dX12_next_126 rfl 2 rfl ?_
          refine k_getF (C := RX12) (T := TX12) (N := 57) o hb hts in12 hown rfl (by decide) 14 (by decide) rfl (hts (.fieldLink RX12 49 "FactKeeperModel" "number" "[I") (by decide +kernel)) (fun _ h9 => h9) dX12_next_127 h (fun v27 h => ?_)
          refine k_iload o hb dX12_next_130 0 rfl ?_
          refine k_iald o hb dX12_next_132 h (fun v28 h => ?_)
          exact k_iret o hb B.hr fr dX12_next_133 h
        · skip
          refine k_aload_n o hb dX12_next_99 rfl 2 rfl ?_
          refine k_getF (C := RX12) (T := TX12) (N := 57) o hb hts in12 hown rfl (by decide) 29 (by decide) rfl (hts (.fieldLink RX12 76 "FactKeeperModel" "isOver" "[Z") (by decide +kernel)) (fun _ h9 => h9) dX12_next_100 h (fun v29 h => ?_)
          refine k_iload_n o hb dX12_next_103 rfl 3 rfl ?_
          refine k_iconst (v := 1) o hb dX12_next_104 (by decide) ?_
          refine k_zast o hb dX12_next_105 h (fun x30 h => ?_)
          refine k_iconst (v := (-1)) o hb dX12_next_106 (by decide) ?_
          exact k_iret o hb B.hr fr dX12_next_107 h
      · skip
        refine k_if_ge (tgt := 55) o hb dX12_next_43 (by decide) h (fun h => ?_) (fun h => ?_)
        · skip
          refine k_aload_n o hb dX12_next_55 rfl 1 rfl ?_
          refine k_getF (C := RX12) (T := TX12) (N := 57) o hb hts in12 hown rfl (by decide) 18 (by decide) rfl (hts (.fieldLink RX12 61 "FactKeeperModel" "behind" "[I") (by decide +kernel)) (fun _ h9 => h9) dX12_next_56 h (fun v31 h => ?_)
          refine k_aload_n o hb dX12_next_59 rfl 1 rfl ?_
          refine k_getF (C := RX12) (T := TX12) (N := 57) o hb hts in12 hown rfl (by decide) 33 (by decide) rfl (hts (.fieldLink RX12 88 "FactKeeperModel" "cursorLast" "[I") (by decide +kernel)) (fun _ h9 => h9) dX12_next_60 h (fun v32 h => ?_)
          refine k_iload_n o hb dX12_next_63 rfl 2 rfl ?_
          refine k_iald o hb dX12_next_64 h (fun v33 h => ?_)
          refine k_iald o hb dX12_next_65 h (fun v34 h => ?_)
          exact KW.sub [1, 2, 0] rfl (hj12 v34 x5 h)
        · skip
          refine k_aload_n o hb dX12_next_46 rfl 1 rfl ?_
          refine k_getF (C := RX12) (T := TX12) (N := 57) o hb hts in12 hown rfl (by decide) 7 (by decide) rfl (hts (.fieldLink RX12 30 "FactKeeperModel" "first" "[I") (by decide +kernel)) (fun _ h9 => h9) dX12_next_47 h (fun v35 h => ?_)
          refine k_iload_n o hb dX12_next_50 rfl 0 rfl ?_
          refine k_iald o hb dX12_next_51 h (fun v36 h => ?_)
          refine k_goto (tgt := 66) o hb dX12_next_52 (by decide) ?_
          exact KW.sub [1, 2, 0] rfl (hj12 v36 x5 h)
    · skip
      refine k_iconst (v := (-1)) o hb dX12_next_28 (by decide) ?_
      exact k_iret o hb B.hr fr dX12_next_29 h
  · skip
    refine k_iconst (v := 0) o hb dX12_next_12 (by decide) ?_
    exact k_iret o hb B.hr fr dX12_next_13 h
theorem dX12_close_0 : decode cX12_close 0 = .ok (.aload_n 0, 1) := by decide +kernel
theorem dX12_close_1 : decode cX12_close 1 = .ok (.aload_n 0, 1) := by decide +kernel
theorem dX12_close_2 : decode cX12_close 2 = .ok (.iload_n 1, 1) := by decide +kernel
theorem dX12_close_3 : decode cX12_close 3 = .ok (.invokevirtual 223, 3) := by decide +kernel
theorem dX12_close_6 : decode cX12_close 6 = .ok (.invokevirtual 136, 3) := by decide +kernel
theorem dX12_close_9 : decode cX12_close 9 = .ok (.ifCond .eq 5, 3) := by decide +kernel
theorem dX12_close_12 : decode cX12_close 12 = .ok (.iconst 0, 1) := by decide +kernel
theorem dX12_close_13 : decode cX12_close 13 = .ok (.ireturn, 1) := by decide +kernel
theorem dX12_close_14 : decode cX12_close 14 = .ok (.aload_n 0, 1) := by decide +kernel
theorem dX12_close_15 : decode cX12_close 15 = .ok (.getfield 73, 3) := by decide +kernel
theorem dX12_close_18 : decode cX12_close 18 = .ok (.iload_n 1, 1) := by decide +kernel
theorem dX12_close_19 : decode cX12_close 19 = .ok (.iconst 0, 1) := by decide +kernel
theorem dX12_close_20 : decode cX12_close 20 = .ok (.bastore, 1) := by decide +kernel
theorem dX12_close_21 : decode cX12_close 21 = .ok (.aload_n 0, 1) := by decide +kernel
theorem dX12_close_22 : decode cX12_close 22 = .ok (.getfield 91, 3) := by decide +kernel
theorem dX12_close_25 : decode cX12_close 25 = .ok (.iload_n 1, 1) := by decide +kernel
theorem dX12_close_26 : decode cX12_close 26 = .ok (.iaload, 1) := by decide +kernel
theorem dX12_close_27 : decode cX12_close 27 = .ok (.ireturn, 1) := by decide +kernel
theorem i9wsX12_close_0 : ∀ w ∈ ([.fieldLink RX12 73 "FactKeeperModel" "isOpen" "[Z", .fieldLink RX12 91 "FactKeeperModel" "cursorTold" "[I", .methodLink RX12 223 yX12_wrongCursor, .instanceMethod yX12_wrongCursor, .selects RX12 yX12_wrongCursor yX12_wrongCursor, .initialized RX12, .code yX12_wrongCursor cX12_wrongCursor 2 (some .int), .methodLink RX12 136 yX12_fails, .instanceMethod yX12_fails, .selects RX12 yX12_fails yX12_fails, .code yX12_fails cX12_fails 2 (some .boolean), .fieldLink RX12 1 "FactKeeperModel" "thrown" "I"] : List Cond), w ∈ wsX12_close := fun _ h => (List.mem_cons_of_mem _ (List.mem_append_left _ h))
theorem i9wsX12_close_1 : ∀ w ∈ wsX120, w ∈ wsX12_close := fun _ h => (List.mem_cons_of_mem _ (List.mem_append_right _ h))
set_option maxRecDepth 20000 in
theorem ggX12_close_X12_wrongCursor : GoodIn wsX12_close wsX12_wrongCursor := (gin_c (mem_at i9wsX12_close_0 6 rfl) rfl (goodIn_app (gin_c (mem_at i9wsX12_close_0 0 rfl) rfl gin_n) (goodIn_sub i9wsX12_close_1 g9_16)))
set_option maxRecDepth 20000 in
theorem gX12_close_X12_wrongCursor : GoodIn wsX12_close (wsV RX12 223 RX12 yX12_wrongCursor wsX12_wrongCursor) := goodIn_app (gin_c (mem_at i9wsX12_close_0 2 rfl) rfl (gin_c (mem_at i9wsX12_close_0 3 rfl) rfl (gin_c (mem_at i9wsX12_close_0 4 rfl) rfl (gin_c (mem_at i9wsX12_close_0 5 rfl) rfl gin_n)))) ggX12_close_X12_wrongCursor
set_option maxRecDepth 20000 in
theorem ggX12_close_X12_fails : GoodIn wsX12_close wsX12_fails := (gin_c (mem_at i9wsX12_close_0 10 rfl) rfl (goodIn_app (gin_c (mem_at i9wsX12_close_0 11 rfl) rfl gin_n) (goodIn_sub i9wsX12_close_1 g9_16)))
set_option maxRecDepth 20000 in
theorem gX12_close_X12_fails : GoodIn wsX12_close (wsV RX12 136 RX12 yX12_fails wsX12_fails) := goodIn_app (gin_c (mem_at i9wsX12_close_0 7 rfl) rfl (gin_c (mem_at i9wsX12_close_0 8 rfl) rfl (gin_c (mem_at i9wsX12_close_0 9 rfl) rfl (gin_c (mem_at i9wsX12_close_0 5 rfl) rfl gin_n)))) ggX12_close_X12_fails
set_option maxHeartbeats 4000000 in
set_option maxRecDepth 100000 in
theorem T_X12_close (l : Launch) (hl : l.stackTraces = false) (D : va_G) (cA : Nat → ClassId) {l0 : Option Nat} {l1 : Int32} {x : HS} {Q : Int32 → HS → Prop} {X : String → HS → Prop} (h : w_X12_close l0 l1 x Q X) : YI l yX12_close wsX12_close 1 21 D cA [.q l0, .i l1] x Q X := by
  refine YI.of (cc := cX12_close) (maxL := 2) (ret := (some .int)) hl (by decide) rfl rfl (fun g B fr => ?_)
  have o := B.o
  have hb := B.hb
  have hts := B.hts
  have hown : g.s.vm.findClass RX12 = some g.m.cls := B.hown
  have in12 : ∀ w ∈ u_ws RX12 TX12 57, w ∈ wsX12_close := fun w h => (List.mem_cons_of_mem _ (List.mem_append_right _ h))
  unfold w_X12_close at h
  show KW g 2 0 [(0, .q l0), (1, .i l1)] [] x
  refine k_aload_n o hb dX12_close_0 rfl 0 rfl ?_
  refine k_aload_n o hb dX12_close_1 rfl 0 rfl ?_
  refine k_iload_n o hb dX12_close_2 rfl 1 rfl ?_
  refine k_run_i o (fun _ _ q => q) (k_runV (ci := 12) (rc := (RX12, TX12, 57)) o hb B.hml hown hts rfl (by decide) (T_X12_wrongCursor g.l o.hl g.D g.cA h.2) (cwV 1 hts gX12_close_X12_wrongCursor rfl rfl rfl (by decide +kernel) ⟨yle B.hR1 rfl, yle B.hR2 rfl⟩) h.1 rfl rfl (Nat.le_of_ble_eq_true rfl) dX12_close_3) (fun v2 x1 h => ?_)
  refine k_run_i o (fun _ _ q => q) (k_runV (ci := 12) (rc := (RX12, TX12, 57)) o hb B.hml hown hts rfl (by decide) (T_X12_fails g.l o.hl g.D g.cA h.2) (cwV 1 hts gX12_close_X12_fails rfl rfl rfl (by decide +kernel) ⟨yle B.hR1 rfl, yle B.hR2 rfl⟩) h.1 rfl rfl (Nat.le_of_ble_eq_true rfl) dX12_close_6) (fun v4 x3 h => ?_)
  refine k_if_eq (tgt := 14) o hb dX12_close_9 (by decide) h (fun h => ?_) (fun h => ?_)
  · skip
    refine k_aload_n o hb dX12_close_14 rfl 0 rfl ?_
    refine k_getF (C := RX12) (T := TX12) (N := 57) o hb hts in12 hown rfl (by decide) 28 (by decide) rfl (hts (.fieldLink RX12 73 "FactKeeperModel" "isOpen" "[Z") (by decide +kernel)) (fun _ h9 => h9) dX12_close_15 h (fun v5 h => ?_)
    refine k_iload_n o hb dX12_close_18 rfl 1 rfl ?_
    refine k_iconst (v := 0) o hb dX12_close_19 (by decide) ?_
    refine k_zast o hb dX12_close_20 h (fun x6 h => ?_)
    refine k_aload_n o hb dX12_close_21 rfl 0 rfl ?_
    refine k_getF (C := RX12) (T := TX12) (N := 57) o hb hts in12 hown rfl (by decide) 34 (by decide) rfl (hts (.fieldLink RX12 91 "FactKeeperModel" "cursorTold" "[I") (by decide +kernel)) (fun _ h9 => h9) dX12_close_22 h (fun v7 h => ?_)
    refine k_iload_n o hb dX12_close_25 rfl 1 rfl ?_
    refine k_iald o hb dX12_close_26 h (fun v8 h => ?_)
    exact k_iret o hb B.hr fr dX12_close_27 h
  · skip
    refine k_iconst (v := 0) o hb dX12_close_12 (by decide) ?_
    exact k_iret o hb B.hr fr dX12_close_13 h
