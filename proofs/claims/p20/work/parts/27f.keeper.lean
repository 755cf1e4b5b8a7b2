/-! contracts out of the words (keeper), laid by wip/p4/y/gen5.py -/
set_option linter.unusedVariables false
theorem dX11_init_0 : decode cX11_init 0 = .ok (.aload_n 0, 1) := by decide +kernel
theorem dX11_init_1 : decode cX11_init 1 = .ok (.invokespecial 1, 3) := by decide +kernel
theorem dX11_init_4 : decode cX11_init 4 = .ok (.aload_n 0, 1) := by decide +kernel
theorem dX11_init_5 : decode cX11_init 5 = .ok (.sipush 400, 3) := by decide +kernel
theorem dX11_init_8 : decode cX11_init 8 = .ok (.newarray .byte, 2) := by decide +kernel
theorem dX11_init_10 : decode cX11_init 10 = .ok (.putfield 9, 3) := by decide +kernel
theorem dX11_init_13 : decode cX11_init 13 = .ok (.aload_n 0, 1) := by decide +kernel
theorem dX11_init_14 : decode cX11_init 14 = .ok (.iconst 4, 1) := by decide +kernel
theorem dX11_init_15 : decode cX11_init 15 = .ok (.newarray .int, 2) := by decide +kernel
theorem dX11_init_17 : decode cX11_init 17 = .ok (.putfield 13, 3) := by decide +kernel
theorem dX11_init_20 : decode cX11_init 20 = .ok (.aload_n 0, 1) := by decide +kernel
theorem dX11_init_21 : decode cX11_init 21 = .ok (.new 17, 3) := by decide +kernel
theorem dX11_init_24 : decode cX11_init 24 = .ok (.dup, 1) := by decide +kernel
theorem dX11_init_25 : decode cX11_init 25 = .ok (.invokespecial 19, 3) := by decide +kernel
theorem dX11_init_28 : decode cX11_init 28 = .ok (.putfield 20, 3) := by decide +kernel
theorem dX11_init_31 : decode cX11_init 31 = .ok (.aload_n 0, 1) := by decide +kernel
theorem dX11_init_32 : decode cX11_init 32 = .ok (.bipush 10, 2) := by decide +kernel
theorem dX11_init_34 : decode cX11_init 34 = .ok (.anewarray 24, 3) := by decide +kernel
theorem dX11_init_37 : decode cX11_init 37 = .ok (.putfield 26, 3) := by decide +kernel
theorem dX11_init_40 : decode cX11_init 40 = .ok (.aload_n 0, 1) := by decide +kernel
theorem dX11_init_41 : decode cX11_init 41 = .ok (.bipush 10, 2) := by decide +kernel
theorem dX11_init_43 : decode cX11_init 43 = .ok (.newarray .boolean, 2) := by decide +kernel
theorem dX11_init_45 : decode cX11_init 45 = .ok (.putfield 30, 3) := by decide +kernel
theorem dX11_init_48 : decode cX11_init 48 = .ok (.aload_n 0, 1) := by decide +kernel
theorem dX11_init_49 : decode cX11_init 49 = .ok (.sipush 3000, 3) := by decide +kernel
theorem dX11_init_52 : decode cX11_init 52 = .ok (.newarray .int, 2) := by decide +kernel
theorem dX11_init_54 : decode cX11_init 54 = .ok (.putfield 34, 3) := by decide +kernel
theorem dX11_init_57 : decode cX11_init 57 = .ok (.aload_n 0, 1) := by decide +kernel
theorem dX11_init_58 : decode cX11_init 58 = .ok (.new 24, 3) := by decide +kernel
theorem dX11_init_61 : decode cX11_init 61 = .ok (.dup, 1) := by decide +kernel
theorem dX11_init_62 : decode cX11_init 62 = .ok (.invokespecial 37, 3) := by decide +kernel
theorem dX11_init_65 : decode cX11_init 65 = .ok (.putfield 38, 3) := by decide +kernel
theorem dX11_init_68 : decode cX11_init 68 = .ok (.aload_n 0, 1) := by decide +kernel
theorem dX11_init_69 : decode cX11_init 69 = .ok (.new 42, 3) := by decide +kernel
theorem dX11_init_72 : decode cX11_init 72 = .ok (.dup, 1) := by decide +kernel
theorem dX11_init_73 : decode cX11_init 73 = .ok (.invokespecial 44, 3) := by decide +kernel
theorem dX11_init_76 : decode cX11_init 76 = .ok (.putfield 45, 3) := by decide +kernel
theorem dX11_init_79 : decode cX11_init 79 = .ok (.aload_n 0, 1) := by decide +kernel
theorem dX11_init_80 : decode cX11_init 80 = .ok (.new 49, 3) := by decide +kernel
theorem dX11_init_83 : decode cX11_init 83 = .ok (.dup, 1) := by decide +kernel
theorem dX11_init_84 : decode cX11_init 84 = .ok (.invokespecial 51, 3) := by decide +kernel
theorem dX11_init_87 : decode cX11_init 87 = .ok (.putfield 52, 3) := by decide +kernel
theorem dX11_init_90 : decode cX11_init 90 = .ok (.iconst 0, 1) := by decide +kernel
theorem dX11_init_91 : decode cX11_init 91 = .ok (.istore_n 1, 1) := by decide +kernel
theorem dX11_init_92 : decode cX11_init 92 = .ok (.iload_n 1, 1) := by decide +kernel
theorem dX11_init_93 : decode cX11_init 93 = .ok (.bipush 10, 2) := by decide +kernel
theorem dX11_init_95 : decode cX11_init 95 = .ok (.if_icmp .ge 22, 3) := by decide +kernel
theorem dX11_init_98 : decode cX11_init 98 = .ok (.aload_n 0, 1) := by decide +kernel
theorem dX11_init_99 : decode cX11_init 99 = .ok (.getfield 26, 3) := by decide +kernel
theorem dX11_init_102 : decode cX11_init 102 = .ok (.iload_n 1, 1) := by decide +kernel
theorem dX11_init_103 : decode cX11_init 103 = .ok (.new 24, 3) := by decide +kernel
theorem dX11_init_106 : decode cX11_init 106 = .ok (.dup, 1) := by decide +kernel
theorem dX11_init_107 : decode cX11_init 107 = .ok (.invokespecial 37, 3) := by decide +kernel
theorem dX11_init_110 : decode cX11_init 110 = .ok (.aastore, 1) := by decide +kernel
theorem dX11_init_111 : decode cX11_init 111 = .ok (.iinc 1 1, 3) := by decide +kernel
theorem dX11_init_114 : decode cX11_init 114 = .ok (.goto (-22), 3) := by decide +kernel
theorem dX11_init_117 : decode cX11_init 117 = .ok (.return_, 1) := by decide +kernel
theorem i9wsX11_init_1 : ∀ w ∈ wsX11_init_r2, w ∈ wsX11_init := fun _ h => (List.mem_cons_of_mem _ (List.mem_append_left _ (List.mem_append_left _ (List.mem_append_left _ (List.mem_append_left _ (List.mem_append_left _ (List.mem_append_left _ (List.mem_append_left _ (List.mem_append_left _ (List.mem_append_right _ (List.mem_append_left _ h)))))))))))
theorem i9wsX11_init_0 : ∀ w ∈ wsX11_init_r1, w ∈ wsX11_init := fun _ h => (List.mem_cons_of_mem _ (List.mem_append_left _ (List.mem_append_left _ (List.mem_append_left _ (List.mem_append_left _ (List.mem_append_left _ (List.mem_append_left _ (List.mem_append_left _ (List.mem_append_left _ (List.mem_append_left _ h))))))))))
theorem i9wsX11_init_5 : ∀ w ∈ wsX90, w ∈ wsX11_init := fun _ h => (List.mem_cons_of_mem _ (List.mem_append_left _ (List.mem_append_left _ (List.mem_append_left _ (List.mem_append_left _ (List.mem_append_left _ (List.mem_append_left _ (List.mem_append_right _ h))))))))
theorem i9wsX11_init_9 : ∀ w ∈ wsX30, w ∈ wsX11_init := fun _ h => (List.mem_cons_of_mem _ (List.mem_append_left _ (List.mem_append_left _ (List.mem_append_right _ h))))
set_option maxRecDepth 20000 in
theorem ggX11_init_X9_init : GoodIn wsX11_init wsX9_init := (gin_c (mem_at i9wsX11_init_1 4 rfl) rfl (goodIn_app (goodIn_app (gin_c (mem_at i9wsX11_init_1 5 rfl) rfl (gin_c (mem_at i9wsX11_init_0 1 rfl) rfl (gin_c (mem_at i9wsX11_init_0 2 rfl) rfl (gin_c (mem_at i9wsX11_init_1 6 rfl) rfl (gin_c (mem_at i9wsX11_init_1 7 rfl) rfl (gin_c (mem_at i9wsX11_init_1 8 rfl) rfl (gin_c (mem_at i9wsX11_init_1 9 rfl) rfl (gin_c (mem_at i9wsX11_init_1 10 rfl) rfl (gin_c (mem_at i9wsX11_init_1 11 rfl) rfl (gin_c (mem_at i9wsX11_init_1 12 rfl) rfl (gin_c (mem_at i9wsX11_init_1 13 rfl) rfl (gin_c (mem_at i9wsX11_init_1 14 rfl) rfl (gin_c (mem_at i9wsX11_init_1 15 rfl) rfl (gin_c (mem_at i9wsX11_init_1 16 rfl) rfl (gin_c (mem_at i9wsX11_init_1 17 rfl) rfl (gin_c (mem_at i9wsX11_init_1 18 rfl) rfl (gin_c (mem_at i9wsX11_init_0 13 rfl) rfl (gin_c (mem_at i9wsX11_init_1 19 rfl) rfl (gin_c (mem_at i9wsX11_init_0 5 rfl) rfl (gin_c (mem_at i9wsX11_init_1 20 rfl) rfl gin_n)))))))))))))))))))) (goodIn_sub i9wsX11_init_5 g9_5)) (goodIn_sub i9wsX11_init_9 g9_4)))
set_option maxRecDepth 20000 in
theorem gX11_init_X9_init_n19 : GoodIn wsX11_init (wsX9_init) := ggX11_init_X9_init
theorem i9wsX11_init_2 : ∀ w ∈ wsX11_init_r3, w ∈ wsX11_init := fun _ h => (List.mem_cons_of_mem _ (List.mem_append_left _ (List.mem_append_left _ (List.mem_append_left _ (List.mem_append_left _ (List.mem_append_left _ (List.mem_append_left _ (List.mem_append_left _ (List.mem_append_left _ (List.mem_append_right _ (List.mem_append_right _ (List.mem_append_left _ h))))))))))))
theorem i9wsX11_init_6 : ∀ w ∈ wsX50, w ∈ wsX11_init := fun _ h => (List.mem_cons_of_mem _ (List.mem_append_left _ (List.mem_append_left _ (List.mem_append_left _ (List.mem_append_left _ (List.mem_append_left _ (List.mem_append_right _ h)))))))
set_option maxRecDepth 20000 in
theorem ggX11_init_X5_init : GoodIn wsX11_init wsX5_init := (gin_c (mem_at i9wsX11_init_1 22 rfl) rfl (goodIn_app (gin_c (mem_at i9wsX11_init_1 23 rfl) rfl (gin_c (mem_at i9wsX11_init_0 1 rfl) rfl (gin_c (mem_at i9wsX11_init_0 2 rfl) rfl (gin_c (mem_at i9wsX11_init_0 5 rfl) rfl (gin_c (mem_at i9wsX11_init_2 0 rfl) rfl gin_n))))) (goodIn_sub i9wsX11_init_6 g9_10)))
set_option maxRecDepth 20000 in
theorem gX11_init_X5_init_n37 : GoodIn wsX11_init (wsX5_init) := ggX11_init_X5_init
theorem i9wsX11_init_7 : ∀ w ∈ wsX60, w ∈ wsX11_init := fun _ h => (List.mem_cons_of_mem _ (List.mem_append_left _ (List.mem_append_left _ (List.mem_append_left _ (List.mem_append_left _ (List.mem_append_right _ h))))))
theorem i9wsX11_init_10 : ∀ w ∈ wsX20, w ∈ wsX11_init := fun _ h => (List.mem_cons_of_mem _ (List.mem_append_left _ (List.mem_append_right _ h)))
set_option maxRecDepth 20000 in
theorem ggX11_init_X6_init : GoodIn wsX11_init wsX6_init := (gin_c (mem_at i9wsX11_init_2 3 rfl) rfl (goodIn_app (goodIn_app (gin_c (mem_at i9wsX11_init_2 4 rfl) rfl (gin_c (mem_at i9wsX11_init_0 1 rfl) rfl (gin_c (mem_at i9wsX11_init_0 2 rfl) rfl (gin_c (mem_at i9wsX11_init_2 5 rfl) rfl (gin_c (mem_at i9wsX11_init_2 6 rfl) rfl (gin_c (mem_at i9wsX11_init_2 7 rfl) rfl (gin_c (mem_at i9wsX11_init_2 8 rfl) rfl (gin_c (mem_at i9wsX11_init_2 9 rfl) rfl (gin_c (mem_at i9wsX11_init_2 10 rfl) rfl (gin_c (mem_at i9wsX11_init_2 11 rfl) rfl (gin_c (mem_at i9wsX11_init_2 12 rfl) rfl (gin_c (mem_at i9wsX11_init_0 5 rfl) rfl (gin_c (mem_at i9wsX11_init_2 13 rfl) rfl (gin_c (mem_at i9wsX11_init_2 14 rfl) rfl gin_n)))))))))))))) (goodIn_sub i9wsX11_init_7 g9_7)) (goodIn_sub i9wsX11_init_10 g9_6)))
set_option maxRecDepth 20000 in
theorem gX11_init_X6_init : GoodIn wsX11_init (wsX6_init) := ggX11_init_X6_init
theorem i9wsX11_init_3 : ∀ w ∈ wsX11_init_r4, w ∈ wsX11_init := fun _ h => (List.mem_cons_of_mem _ (List.mem_append_left _ (List.mem_append_left _ (List.mem_append_left _ (List.mem_append_left _ (List.mem_append_left _ (List.mem_append_left _ (List.mem_append_left _ (List.mem_append_left _ (List.mem_append_right _ (List.mem_append_right _ (List.mem_append_right _ h))))))))))))
theorem i9wsX11_init_11 : ∀ w ∈ wsX70, w ∈ wsX11_init := fun _ h => (List.mem_cons_of_mem _ (List.mem_append_right _ h))
theorem i9wsX11_init_8 : ∀ w ∈ wsX80, w ∈ wsX11_init := fun _ h => (List.mem_cons_of_mem _ (List.mem_append_left _ (List.mem_append_left _ (List.mem_append_left _ (List.mem_append_right _ h)))))
set_option maxRecDepth 20000 in
theorem ggX11_init_X8_init : GoodIn wsX11_init wsX8_init := (gin_c (mem_at i9wsX11_init_2 17 rfl) rfl (goodIn_app (goodIn_app (goodIn_app (gin_c (mem_at i9wsX11_init_2 18 rfl) rfl (gin_c (mem_at i9wsX11_init_0 1 rfl) rfl (gin_c (mem_at i9wsX11_init_0 2 rfl) rfl (gin_c (mem_at i9wsX11_init_2 19 rfl) rfl (gin_c (mem_at i9wsX11_init_2 20 rfl) rfl (gin_c (mem_at i9wsX11_init_2 21 rfl) rfl (gin_c (mem_at i9wsX11_init_2 22 rfl) rfl (gin_c (mem_at i9wsX11_init_2 23 rfl) rfl (gin_c (mem_at i9wsX11_init_3 0 rfl) rfl (gin_c (mem_at i9wsX11_init_3 1 rfl) rfl (gin_c (mem_at i9wsX11_init_0 5 rfl) rfl (gin_c (mem_at i9wsX11_init_3 2 rfl) rfl (gin_c (mem_at i9wsX11_init_3 3 rfl) rfl (gin_c (mem_at i9wsX11_init_0 16 rfl) rfl (gin_c (mem_at i9wsX11_init_0 17 rfl) rfl (gin_c (mem_at i9wsX11_init_3 4 rfl) rfl (gin_c (mem_at i9wsX11_init_3 5 rfl) rfl (gin_c (mem_at i9wsX11_init_3 6 rfl) rfl (gin_c (mem_at i9wsX11_init_3 7 rfl) rfl (gin_c (mem_at i9wsX11_init_1 21 rfl) rfl (gin_c (mem_at i9wsX11_init_1 22 rfl) rfl (gin_c (mem_at i9wsX11_init_1 23 rfl) rfl (gin_c (mem_at i9wsX11_init_2 0 rfl) rfl gin_n))))))))))))))))))))))) (goodIn_sub i9wsX11_init_11 g9_9)) (goodIn_sub i9wsX11_init_8 g9_11)) (goodIn_sub i9wsX11_init_6 g9_10)))
set_option maxRecDepth 20000 in
theorem gX11_init_X8_init : GoodIn wsX11_init (wsX8_init) := ggX11_init_X8_init
set_option maxHeartbeats 4000000 in
set_option maxRecDepth 100000 in
theorem T_X11_init (l : Launch) (hl : l.stackTraces = false) (D : va_G) (cA : Nat → ClassId) {l0 : Option Nat} {x : HS} {Q : HS → Prop} {X : String → HS → Prop} (h : w_X11_init l0 x Q X) : YV l yX11_init wsX11_init 3 53 D cA [.q l0] x Q X := by
  refine YV.of (cc := cX11_init) (maxL := 2) (ret := none) hl (by decide) rfl rfl (fun g B fr => ?_)
  have o := B.o
  have hb := B.hb
  have hts := B.hts
  have hown : g.s.vm.findClass RX11 = some g.m.cls := B.hown
  have in5 : ∀ w ∈ u_ws RX5 TX5 8, w ∈ wsX11_init := fun w h => (List.mem_cons_of_mem _ (List.mem_append_left _ (List.mem_append_left _ (List.mem_append_left _ (List.mem_append_left _ (List.mem_append_left _ (List.mem_append_right _ h)))))))
  have in6 : ∀ w ∈ u_ws RX6 TX6 8, w ∈ wsX11_init := fun w h => (List.mem_cons_of_mem _ (List.mem_append_left _ (List.mem_append_left _ (List.mem_append_left _ (List.mem_append_left _ (List.mem_append_right _ h))))))
  have in8 : ∀ w ∈ u_ws RX8 TX8 8, w ∈ wsX11_init := fun w h => (List.mem_cons_of_mem _ (List.mem_append_left _ (List.mem_append_left _ (List.mem_append_left _ (List.mem_append_right _ h)))))
  have in9 : ∀ w ∈ u_ws RX9 TX9 8, w ∈ wsX11_init := fun w h => (List.mem_cons_of_mem _ (List.mem_append_left _ (List.mem_append_left _ (List.mem_append_left _ (List.mem_append_left _ (List.mem_append_left _ (List.mem_append_left _ (List.mem_append_right _ h))))))))
  have in11 : ∀ w ∈ u_ws RX11 TX11 12, w ∈ wsX11_init := fun w h => (List.mem_cons_of_mem _ (List.mem_append_left _ (List.mem_append_left _ (List.mem_append_left _ (List.mem_append_left _ (List.mem_append_left _ (List.mem_append_left _ (List.mem_append_left _ (List.mem_append_right _ h)))))))))
  unfold w_X11_init at h
  show KW g 2 0 [(0, .q l0)] [] x
  refine k_aload_n o hb dX11_init_0 rfl 0 rfl ?_
  refine k_objInit o hb B.hml hown (hts (.methodLink RX11 1 objectInit) (by decide +kernel)) (hts (.instanceMethod objectInit) (by decide +kernel)) (hts (.code objectInit ⟨#[0xb1]⟩ 1 none) (by decide +kernel)) (yle B.hR1 rfl) (yle B.hR2 rfl) dX11_init_1 h.1 ?_
  have h := h.2
  refine k_aload_n o hb dX11_init_4 rfl 0 rfl ?_
  refine k_sipush (v := 400) o hb dX11_init_5 (by decide) ?_
  refine k_newJ (atype := .byte) (ty := .byte) (kd := 21) (t0 := 1) o hb (hts (.arrayClass .byte) (by decide +kernel)) rfl (by decide) (by decide) rfl (fun _ _ => rfl) (by decide) dX11_init_8 h (fun q1 x2 h => ?_)
  refine k_putFF (C := RX11) (T := TX11) (N := 12) (ty := (tyX11 0)) o hb hts in11 tyX11 tyX11_ok nmX11 hown rfl (by decide) 0 (by decide) rfl (hts (.fieldLink RX11 9 "FactKeeper" "tape" "[B") (by decide +kernel)) (fun _ h9 => h9) rfl B.hnm rfl (by decide +kernel) (fun r => by cases r <;> rfl) (fun r => by cases r <;> rfl) dX11_init_10 h (fun x3 h => ?_)
  refine k_aload_n o hb dX11_init_13 rfl 0 rfl ?_
  refine k_iconst (v := 4) o hb dX11_init_14 (by decide) ?_
  refine k_newJ (atype := .int) (ty := .int) (kd := 20) (t0 := 0) o hb (hts (.arrayClass .int) (by decide +kernel)) rfl (by decide) (by decide) rfl (fun _ _ => rfl) (by decide) dX11_init_15 h (fun q4 x5 h => ?_)
  refine k_putFF (C := RX11) (T := TX11) (N := 12) (ty := (tyX11 1)) o hb hts in11 tyX11 tyX11_ok nmX11 hown rfl (by decide) 1 (by decide) rfl (hts (.fieldLink RX11 13 "FactKeeper" "values" "[I") (by decide +kernel)) (fun _ h9 => h9) rfl B.hnm rfl (by decide +kernel) (fun r => by cases r <;> rfl) (fun r => by cases r <;> rfl) dX11_init_17 h (fun x6 h => ?_)
  refine k_aload_n o hb dX11_init_20 rfl 0 rfl ?_
  refine k_new (C := RX9) (T := TX9) (N := 8) o hb hts in9 tyX9 tyX9_ok hown (hts (.classLink RX11 17 RX9) (by decide +kernel)) (hts (.instantiable RX9 8) (by decide +kernel)) (hts (.initialized RX9) (by decide +kernel)) rfl (by decide) (fun j hj => by rcases (show j = 0 ∨ j = 1 ∨ j = 2 ∨ j = 3 ∨ j = 4 ∨ j = 5 ∨ j = 6 ∨ j = 7 by omega) with rfl | rfl | rfl | rfl | rfl | rfl | rfl | rfl <;> rfl) dX11_init_21 h (fun q7 x8 h => ?_)
  refine k_dup o hb dX11_init_24 ?_
  refine k_run_v o (fun _ _ q => q.elim) (k_runIN (host := RX11) o hb B.hml hown hts (T_X9_init g.l o.hl g.D g.cA h) yX_no ⟨va_cnB 0 hts gX11_init_X9_init_n19 rfl rfl rfl o.hZ.2.2.1.1 (hts (.initialized RX9) (by decide +kernel)) (by decide +kernel) ⟨yle B.hR1 rfl, yle B.hR2 rfl⟩, rfl, hts (.instanceMethod yX9_init) (by decide +kernel)⟩ rfl rfl (Nat.le_of_ble_eq_true rfl) dX11_init_25) (fun x9 h => ?_)
  refine k_putFF (C := RX11) (T := TX11) (N := 12) (ty := (tyX11 2)) o hb hts in11 tyX11 tyX11_ok nmX11 hown rfl (by decide) 2 (by decide) rfl (hts (.fieldLink RX11 20 "FactKeeper" "store" "LFactKeeper$Store;") (by decide +kernel)) (fun _ h9 => h9) rfl B.hnm rfl (by decide +kernel) (fun r => by cases r <;> rfl) (fun r => by cases r <;> rfl) dX11_init_28 h (fun x11 h => ?_)
  refine k_aload_n o hb dX11_init_31 rfl 0 rfl ?_
  refine k_bipush (v := 10) o hb dX11_init_32 (by decide) ?_
  refine k_newG (kd := 26) (t0 := 5) o hb hown (hts (.classLink RX11 24 RX5) (by decide +kernel)) o.hZ.2.2.2.2.1.2.2.1 (by decide) rfl dX11_init_34 h (fun q12 x13 h => ?_)
  refine k_putFF (C := RX11) (T := TX11) (N := 12) (ty := (tyX11 3)) o hb hts in11 tyX11 tyX11_ok nmX11 hown rfl (by decide) 3 (by decide) rfl (hts (.fieldLink RX11 26 "FactKeeper" "cursors" "[LFactKeeper$Look;") (by decide +kernel)) (fun _ h9 => h9) rfl B.hnm rfl (by decide +kernel) (fun r => by cases r <;> rfl) (fun r => by cases r <;> rfl) dX11_init_37 h (fun x14 h => ?_)
  refine k_aload_n o hb dX11_init_40 rfl 0 rfl ?_
  refine k_bipush (v := 10) o hb dX11_init_41 (by decide) ?_
  refine k_newJ (atype := .boolean) (ty := .boolean) (kd := 22) (t0 := 2) o hb (hts (.arrayClass .boolean) (by decide +kernel)) rfl (by decide) (by decide) rfl (fun _ _ => rfl) (by decide) dX11_init_43 h (fun q15 x16 h => ?_)
  refine k_putFF (C := RX11) (T := TX11) (N := 12) (ty := (tyX11 4)) o hb hts in11 tyX11 tyX11_ok nmX11 hown rfl (by decide) 4 (by decide) rfl (hts (.fieldLink RX11 30 "FactKeeper" "isOpen" "[Z") (by decide +kernel)) (fun _ h9 => h9) rfl B.hnm rfl (by decide +kernel) (fun r => by cases r <;> rfl) (fun r => by cases r <;> rfl) dX11_init_45 h (fun x17 h => ?_)
  refine k_aload_n o hb dX11_init_48 rfl 0 rfl ?_
  refine k_sipush (v := 3000) o hb dX11_init_49 (by decide) ?_
  refine k_newJ (atype := .int) (ty := .int) (kd := 20) (t0 := 0) o hb (hts (.arrayClass .int) (by decide +kernel)) rfl (by decide) (by decide) rfl (fun _ _ => rfl) (by decide) dX11_init_52 h (fun q18 x19 h => ?_)
  refine k_putFF (C := RX11) (T := TX11) (N := 12) (ty := (tyX11 5)) o hb hts in11 tyX11 tyX11_ok nmX11 hown rfl (by decide) 5 (by decide) rfl (hts (.fieldLink RX11 34 "FactKeeper" "found" "[I") (by decide +kernel)) (fun _ h9 => h9) rfl B.hnm rfl (by decide +kernel) (fun r => by cases r <;> rfl) (fun r => by cases r <;> rfl) dX11_init_54 h (fun x20 h => ?_)
  refine k_aload_n o hb dX11_init_57 rfl 0 rfl ?_
  refine k_new (C := RX5) (T := TX5) (N := 8) o hb hts in5 tyX5 tyX5_ok hown (hts (.classLink RX11 24 RX5) (by decide +kernel)) (hts (.instantiable RX5 8) (by decide +kernel)) (hts (.initialized RX5) (by decide +kernel)) rfl (by decide) (fun j hj => by rcases (show j = 0 ∨ j = 1 ∨ j = 2 ∨ j = 3 ∨ j = 4 ∨ j = 5 ∨ j = 6 ∨ j = 7 by omega) with rfl | rfl | rfl | rfl | rfl | rfl | rfl | rfl <;> rfl) dX11_init_58 h (fun q21 x22 h => ?_)
  refine k_dup o hb dX11_init_61 ?_
  refine k_run_v o (fun _ _ q => q.elim) (k_runIN (host := RX11) o hb B.hml hown hts (T_X5_init g.l o.hl g.D g.cA h) yX_no ⟨va_cnB 0 hts gX11_init_X5_init_n37 rfl rfl rfl o.hZ.2.2.1.2.2.1 (hts (.initialized RX5) (by decide +kernel)) (by decide +kernel) ⟨yle B.hR1 rfl, yle B.hR2 rfl⟩, rfl, hts (.instanceMethod yX5_init) (by decide +kernel)⟩ rfl rfl (Nat.le_of_ble_eq_true rfl) dX11_init_62) (fun x23 h => ?_)
  refine k_putFF (C := RX11) (T := TX11) (N := 12) (ty := (tyX11 6)) o hb hts in11 tyX11 tyX11_ok nmX11 hown rfl (by decide) 6 (by decide) rfl (hts (.fieldLink RX11 38 "FactKeeper" "look" "LFactKeeper$Look;") (by decide +kernel)) (fun _ h9 => h9) rfl B.hnm rfl (by decide +kernel) (fun r => by cases r <;> rfl) (fun r => by cases r <;> rfl) dX11_init_65 h (fun x25 h => ?_)
  refine k_aload_n o hb dX11_init_68 rfl 0 rfl ?_
  refine k_new (C := RX6) (T := TX6) (N := 8) o hb hts in6 tyX6 tyX6_ok hown (hts (.classLink RX11 42 RX6) (by decide +kernel)) (hts (.instantiable RX6 8) (by decide +kernel)) (hts (.initialized RX6) (by decide +kernel)) rfl (by decide) (fun j hj => by rcases (show j = 0 ∨ j = 1 ∨ j = 2 ∨ j = 3 ∨ j = 4 ∨ j = 5 ∨ j = 6 ∨ j = 7 by omega) with rfl | rfl | rfl | rfl | rfl | rfl | rfl | rfl <;> rfl) dX11_init_69 h (fun q26 x27 h => ?_)
  refine k_dup o hb dX11_init_72 ?_
  refine k_run_v o (fun _ _ q => q.elim) (k_runI o hb B.hml hown hts (T_X6_init g.l o.hl g.D g.cA h) yX_no (cwI 0 hts gX11_init_X6_init rfl rfl rfl (hts (.initialized RX6) (by decide +kernel)) (hts (.methodLink RX11 44 yX6_init) (by decide +kernel)) (hts (.instanceMethod yX6_init) (by decide +kernel)) rfl (by decide +kernel) ⟨yle B.hR1 rfl, yle B.hR2 rfl⟩) rfl rfl (Nat.le_of_ble_eq_true rfl) dX11_init_73) (fun x28 h => ?_)
  refine k_putFF (C := RX11) (T := TX11) (N := 12) (ty := (tyX11 7)) o hb hts in11 tyX11 tyX11_ok nmX11 hown rfl (by decide) 7 (by decide) rfl (hts (.fieldLink RX11 45 "FactKeeper" "reader" "LFactKeeper$Reader;") (by decide +kernel)) (fun _ h9 => h9) rfl B.hnm rfl (by decide +kernel) (fun r => by cases r <;> rfl) (fun r => by cases r <;> rfl) dX11_init_76 h (fun x30 h => ?_)
  refine k_aload_n o hb dX11_init_79 rfl 0 rfl ?_
  refine k_new (C := RX8) (T := TX8) (N := 8) o hb hts in8 tyX8 tyX8_ok hown (hts (.classLink RX11 49 RX8) (by decide +kernel)) (hts (.instantiable RX8 8) (by decide +kernel)) (hts (.initialized RX8) (by decide +kernel)) rfl (by decide) (fun j hj => by rcases (show j = 0 ∨ j = 1 ∨ j = 2 ∨ j = 3 ∨ j = 4 ∨ j = 5 ∨ j = 6 ∨ j = 7 by omega) with rfl | rfl | rfl | rfl | rfl | rfl | rfl | rfl <;> rfl) dX11_init_80 h (fun q31 x32 h => ?_)
  refine k_dup o hb dX11_init_83 ?_
  refine k_run_v o (fun _ _ q => q.elim) (k_runI o hb B.hml hown hts (T_X8_init g.l o.hl g.D g.cA h) yX_no (cwI 0 hts gX11_init_X8_init rfl rfl rfl (hts (.initialized RX8) (by decide +kernel)) (hts (.methodLink RX11 51 yX8_init) (by decide +kernel)) (hts (.instanceMethod yX8_init) (by decide +kernel)) rfl (by decide +kernel) ⟨yle B.hR1 rfl, yle B.hR2 rfl⟩) rfl rfl (Nat.le_of_ble_eq_true rfl) dX11_init_84) (fun x33 h => ?_)
  refine k_putFF (C := RX11) (T := TX11) (N := 12) (ty := (tyX11 8)) o hb hts in11 tyX11 tyX11_ok nmX11 hown rfl (by decide) 8 (by decide) rfl (hts (.fieldLink RX11 52 "FactKeeper" "solver" "LFactKeeper$Solver;") (by decide +kernel)) (fun _ h9 => h9) rfl B.hnm rfl (by decide +kernel) (fun r => by cases r <;> rfl) (fun r => by cases r <;> rfl) dX11_init_87 h (fun x35 h => ?_)
  refine k_iconst (v := 0) o hb dX11_init_90 (by decide) ?_
  refine k_istore_n o hb dX11_init_91 rfl rfl ?_
  refine KW.sub [1, 0] rfl ?_
  refine wLoop_elim (M := fun (v39 : Int32) (x38 : HS) => KW g 2 92 [(0, .q l0), (1, .i v39)] [] x38) h ?_
  intro v39 x38 again36 ih37 h
  refine k_iload_n o hb dX11_init_92 rfl 1 rfl ?_
  refine k_bipush (v := 10) o hb dX11_init_93 (by decide) ?_
  refine k_icmp_ge (tgt := 117) o hb dX11_init_95 (by decide) h (fun h => ?_) (fun h => ?_)
  · skip
    exact k_vret o hb B.hr fr dX11_init_117 h
  · skip
    refine k_aload_n o hb dX11_init_98 rfl 0 rfl ?_
    refine k_getF (C := RX11) (T := TX11) (N := 12) o hb hts in11 hown rfl (by decide) 3 (by decide) rfl (hts (.fieldLink RX11 26 "FactKeeper" "cursors" "[LFactKeeper$Look;") (by decide +kernel)) (fun _ h9 => h9) dX11_init_99 h (fun v40 h => ?_)
    refine k_iload_n o hb dX11_init_102 rfl 1 rfl ?_
    refine k_new (C := RX5) (T := TX5) (N := 8) o hb hts in5 tyX5 tyX5_ok hown (hts (.classLink RX11 24 RX5) (by decide +kernel)) (hts (.instantiable RX5 8) (by decide +kernel)) (hts (.initialized RX5) (by decide +kernel)) rfl (by decide) (fun j hj => by rcases (show j = 0 ∨ j = 1 ∨ j = 2 ∨ j = 3 ∨ j = 4 ∨ j = 5 ∨ j = 6 ∨ j = 7 by omega) with rfl | rfl | rfl | rfl | rfl | rfl | rfl | rfl <;> rfl) dX11_init_103 h (fun q41 x42 h => ?_)
    refine k_dup o hb dX11_init_106 ?_
    refine k_run_v o (fun _ _ q => q.elim) (k_runIN (host := RX11) o hb B.hml hown hts (T_X5_init g.l o.hl g.D g.cA h) yX_no ⟨va_cnB 0 hts gX11_init_X5_init_n37 rfl rfl rfl o.hZ.2.2.1.2.2.1 (hts (.initialized RX5) (by decide +kernel)) (by decide +kernel) ⟨yle B.hR1 rfl, yle B.hR2 rfl⟩, rfl, hts (.instanceMethod yX5_init) (by decide +kernel)⟩ rfl rfl (Nat.le_of_ble_eq_true rfl) dX11_init_107) (fun x43 h => ?_)
    refine k_aast (kd := 26) (ci := 5) (t0 := 5) (rc := (RX5, TX5, 8)) o hb rfl (by decide) (by decide) rfl dX11_init_110 h (fun x45 h => ?_)
    refine k_iinc (w := 1) o hb dX11_init_111 1 rfl (by decide) rfl ?_
    refine k_goto (tgt := 92) o hb dX11_init_114 (by decide) ?_
    exact KW.sub [1, 0] rfl (ih37 (v39 + 1) x45 h)
theorem dX11_putBytes_0 : decode cX11_putBytes 0 = .ok (.bipush 24, 2) := by decide +kernel
theorem dX11_putBytes_2 : decode cX11_putBytes 2 = .ok (.istore_n 2, 1) := by decide +kernel
theorem dX11_putBytes_3 : decode cX11_putBytes 3 = .ok (.iload_n 2, 1) := by decide +kernel
theorem dX11_putBytes_4 : decode cX11_putBytes 4 = .ok (.ifCond .lt 42, 3) := by decide +kernel
theorem dX11_putBytes_7 : decode cX11_putBytes 7 = .ok (.aload_n 0, 1) := by decide +kernel
theorem dX11_putBytes_8 : decode cX11_putBytes 8 = .ok (.getfield 56, 3) := by decide +kernel
theorem dX11_putBytes_11 : decode cX11_putBytes 11 = .ok (.sipush 400, 3) := by decide +kernel
theorem dX11_putBytes_14 : decode cX11_putBytes 14 = .ok (.if_icmp .ge 32, 3) := by decide +kernel
theorem dX11_putBytes_17 : decode cX11_putBytes 17 = .ok (.aload_n 0, 1) := by decide +kernel
theorem dX11_putBytes_18 : decode cX11_putBytes 18 = .ok (.getfield 9, 3) := by decide +kernel
theorem dX11_putBytes_21 : decode cX11_putBytes 21 = .ok (.aload_n 0, 1) := by decide +kernel
theorem dX11_putBytes_22 : decode cX11_putBytes 22 = .ok (.getfield 56, 3) := by decide +kernel
theorem dX11_putBytes_25 : decode cX11_putBytes 25 = .ok (.iload_n 1, 1) := by decide +kernel
theorem dX11_putBytes_26 : decode cX11_putBytes 26 = .ok (.iload_n 2, 1) := by decide +kernel
theorem dX11_putBytes_27 : decode cX11_putBytes 27 = .ok (.ishr, 1) := by decide +kernel
theorem dX11_putBytes_28 : decode cX11_putBytes 28 = .ok (.i2b, 1) := by decide +kernel
theorem dX11_putBytes_29 : decode cX11_putBytes 29 = .ok (.bastore, 1) := by decide +kernel
theorem dX11_putBytes_30 : decode cX11_putBytes 30 = .ok (.aload_n 0, 1) := by decide +kernel
theorem dX11_putBytes_31 : decode cX11_putBytes 31 = .ok (.dup, 1) := by decide +kernel
theorem dX11_putBytes_32 : decode cX11_putBytes 32 = .ok (.getfield 56, 3) := by decide +kernel
theorem dX11_putBytes_35 : decode cX11_putBytes 35 = .ok (.iconst 1, 1) := by decide +kernel
theorem dX11_putBytes_36 : decode cX11_putBytes 36 = .ok (.iadd, 1) := by decide +kernel
theorem dX11_putBytes_37 : decode cX11_putBytes 37 = .ok (.putfield 56, 3) := by decide +kernel
theorem dX11_putBytes_40 : decode cX11_putBytes 40 = .ok (.iinc 2 (-8), 3) := by decide +kernel
theorem dX11_putBytes_43 : decode cX11_putBytes 43 = .ok (.goto (-40), 3) := by decide +kernel
theorem dX11_putBytes_46 : decode cX11_putBytes 46 = .ok (.return_, 1) := by decide +kernel
set_option maxHeartbeats 4000000 in
set_option maxRecDepth 100000 in
theorem T_X11_putBytes (l : Launch) (hl : l.stackTraces = false) (D : va_G) (cA : Nat → ClassId) {l0 : Option Nat} {l1 : Int32} {x : HS} {Q : HS → Prop} {X : String → HS → Prop} (h : w_X11_putBytes l0 l1 x Q X) : YV l yX11_putBytes wsX11_putBytes 0 0 D cA [.q l0, .i l1] x Q X := by
  refine YV.of (cc := cX11_putBytes) (maxL := 3) (ret := none) hl (by decide) rfl rfl (fun g B fr => ?_)
  have o := B.o
  have hb := B.hb
  have hts := B.hts
  have hown : g.s.vm.findClass RX11 = some g.m.cls := B.hown
  have in11 : ∀ w ∈ u_ws RX11 TX11 12, w ∈ wsX11_putBytes := fun w h => (List.mem_cons_of_mem _ (List.mem_append_right _ h))
  unfold w_X11_putBytes at h
  show KW g 3 0 [(0, .q l0), (1, .i l1)] [] x
  refine k_bipush (v := 24) o hb dX11_putBytes_0 (by decide) ?_
  refine k_istore_n o hb dX11_putBytes_2 rfl rfl ?_
  refine KW.sub [1, 2, 0] rfl ?_
  refine wLoop_elim (M := fun (v4 : Int32) (x3 : HS) => KW g 3 3 [(0, .q l0), (1, .i l1), (2, .i v4)] [] x3) h ?_
  intro v4 x3 again1 ih2 h
  refine k_iload_n o hb dX11_putBytes_3 rfl 2 rfl ?_
  refine wJoin_elim (M := fun K => ∀  (x6 : HS), K  x6 → KW g 3 46 [] [] x6) h ?_ (fun j5 hj5 h => ?_)
  · skip
    intro  x6 h
    exact k_vret o hb B.hr fr dX11_putBytes_46 h
  · skip
    refine k_if_lt (tgt := 46) o hb dX11_putBytes_4 (by decide) h (fun h => ?_) (fun h => ?_)
    · skip
      exact KW.sub [] rfl (hj5 x3 h)
    · skip
      refine k_aload_n o hb dX11_putBytes_7 rfl 0 rfl ?_
      refine k_getI (C := RX11) (T := TX11) (N := 12) o hb hts in11 hown rfl (by decide) 9 (by decide) rfl (hts (.fieldLink RX11 56 "FactKeeper" "tapeLength" "I") (by decide +kernel)) (fun _ h9 => h9) dX11_putBytes_8 h (fun v7 h => ?_)
      refine k_sipush (v := 400) o hb dX11_putBytes_11 (by decide) ?_
      refine k_icmp_ge (tgt := 46) o hb dX11_putBytes_14 (by decide) h (fun h => ?_) (fun h => ?_)
      · skip
        exact KW.sub [] rfl (hj5 x3 h)
      · skip
        refine k_aload_n o hb dX11_putBytes_17 rfl 0 rfl ?_
        refine k_getF (C := RX11) (T := TX11) (N := 12) o hb hts in11 hown rfl (by decide) 0 (by decide) rfl (hts (.fieldLink RX11 9 "FactKeeper" "tape" "[B") (by decide +kernel)) (fun _ h9 => h9) dX11_putBytes_18 h (fun v8 h => ?_)
        refine k_aload_n o hb dX11_putBytes_21 rfl 0 rfl ?_
        refine k_getI (C := RX11) (T := TX11) (N := 12) o hb hts in11 hown rfl (by decide) 9 (by decide) rfl (hts (.fieldLink RX11 56 "FactKeeper" "tapeLength" "I") (by decide +kernel)) (fun _ h9 => h9) dX11_putBytes_22 h (fun v9 h => ?_)
        refine k_iload_n o hb dX11_putBytes_25 rfl 1 rfl ?_
        refine k_iload_n o hb dX11_putBytes_26 rfl 2 rfl ?_
        refine k_ishr o hb dX11_putBytes_27 ?_
        refine k_i2b o hb dX11_putBytes_28 ?_
        refine k_bast o hb dX11_putBytes_29 h (fun x10 h => ?_)
        refine k_aload_n o hb dX11_putBytes_30 rfl 0 rfl ?_
        refine k_dup o hb dX11_putBytes_31 ?_
        refine k_getI (C := RX11) (T := TX11) (N := 12) o hb hts in11 hown rfl (by decide) 9 (by decide) rfl (hts (.fieldLink RX11 56 "FactKeeper" "tapeLength" "I") (by decide +kernel)) (fun _ h9 => h9) dX11_putBytes_32 h (fun v11 h => ?_)
        refine k_iconst (v := 1) o hb dX11_putBytes_35 (by decide) ?_
        refine k_iadd o hb dX11_putBytes_36 ?_
        refine k_putI (C := RX11) (T := TX11) (N := 12) (ty := .int) o hb hts in11 tyX11 tyX11_ok nmX11 hown rfl (by decide) 9 (by decide) rfl (hts (.fieldLink RX11 56 "FactKeeper" "tapeLength" "I") (by decide +kernel)) (fun _ h9 => h9) rfl (by decide +kernel) (fun _ => rfl) (fun _ => rfl) dX11_putBytes_37 h (fun x12 h => ?_)
        refine k_iinc (w := (-8)) o hb dX11_putBytes_40 2 rfl (by decide) rfl ?_
        refine k_goto (tgt := 3) o hb dX11_putBytes_43 (by decide) ?_
        exact KW.sub [1, 2, 0] rfl (ih2 (v4 + (-8)) x12 h)
theorem dX11_feed_0 : decode cX11_feed 0 = .ok (.aload_n 0, 1) := by decide +kernel
theorem dX11_feed_1 : decode cX11_feed 1 = .ok (.getfield 56, 3) := by decide +kernel
theorem dX11_feed_4 : decode cX11_feed 4 = .ok (.sipush 380, 3) := by decide +kernel
theorem dX11_feed_7 : decode cX11_feed 7 = .ok (.if_icmp .le 13, 3) := by decide +kernel
theorem dX11_feed_10 : decode cX11_feed 10 = .ok (.new 60, 3) := by decide +kernel
theorem dX11_feed_13 : decode cX11_feed 13 = .ok (.dup, 1) := by decide +kernel
theorem dX11_feed_14 : decode cX11_feed 14 = .ok (.ldc 62, 2) := by decide +kernel
theorem dX11_feed_16 : decode cX11_feed 16 = .ok (.invokespecial 64, 3) := by decide +kernel
theorem dX11_feed_19 : decode cX11_feed 19 = .ok (.athrow, 1) := by decide +kernel
theorem dX11_feed_20 : decode cX11_feed 20 = .ok (.aload_n 0, 1) := by decide +kernel
theorem dX11_feed_21 : decode cX11_feed 21 = .ok (.iload_n 1, 1) := by decide +kernel
theorem dX11_feed_22 : decode cX11_feed 22 = .ok (.invokevirtual 67, 3) := by decide +kernel
theorem dX11_feed_25 : decode cX11_feed 25 = .ok (.aload_n 0, 1) := by decide +kernel
theorem dX11_feed_26 : decode cX11_feed 26 = .ok (.iload_n 2, 1) := by decide +kernel
theorem dX11_feed_27 : decode cX11_feed 27 = .ok (.invokevirtual 67, 3) := by decide +kernel
theorem dX11_feed_30 : decode cX11_feed 30 = .ok (.aload_n 0, 1) := by decide +kernel
theorem dX11_feed_31 : decode cX11_feed 31 = .ok (.iload_n 3, 1) := by decide +kernel
theorem dX11_feed_32 : decode cX11_feed 32 = .ok (.invokevirtual 67, 3) := by decide +kernel
theorem dX11_feed_35 : decode cX11_feed 35 = .ok (.aload_n 0, 1) := by decide +kernel
theorem dX11_feed_36 : decode cX11_feed 36 = .ok (.iload 4, 2) := by decide +kernel
theorem dX11_feed_38 : decode cX11_feed 38 = .ok (.invokevirtual 67, 3) := by decide +kernel
theorem dX11_feed_41 : decode cX11_feed 41 = .ok (.aload_n 0, 1) := by decide +kernel
theorem dX11_feed_42 : decode cX11_feed 42 = .ok (.iload 5, 2) := by decide +kernel
theorem dX11_feed_44 : decode cX11_feed 44 = .ok (.invokevirtual 67, 3) := by decide +kernel
theorem dX11_feed_47 : decode cX11_feed 47 = .ok (.aload_n 0, 1) := by decide +kernel
theorem dX11_feed_48 : decode cX11_feed 48 = .ok (.getfield 56, 3) := by decide +kernel
theorem dX11_feed_51 : decode cX11_feed 51 = .ok (.ireturn, 1) := by decide +kernel
theorem i9wsX11_feed_0 : ∀ w ∈ ([.classLink RX11 60 "java/lang/IndexOutOfBoundsException", .initialized "java/lang/IndexOutOfBoundsException", .fieldLink RX11 56 "FactKeeper" "tapeLength" "I", .methodLink RX11 67 yX11_putBytes, .instanceMethod yX11_putBytes, .selects RX11 yX11_putBytes yX11_putBytes, .initialized RX11, .code yX11_putBytes cX11_putBytes 3 none, .fieldLink RX11 9 "FactKeeper" "tape" "[B"] : List Cond), w ∈ wsX11_feed := fun _ h => (List.mem_cons_of_mem _ (List.mem_append_left _ (List.mem_append_left _ h)))
theorem i9wsX11_feed_1 : ∀ w ∈ wsX110, w ∈ wsX11_feed := fun _ h => (List.mem_cons_of_mem _ (List.mem_append_left _ (List.mem_append_right _ h)))
set_option maxRecDepth 20000 in
theorem ggX11_feed_X11_putBytes : GoodIn wsX11_feed wsX11_putBytes := (gin_c (mem_at i9wsX11_feed_0 7 rfl) rfl (goodIn_app (gin_c (mem_at i9wsX11_feed_0 2 rfl) rfl (gin_c (mem_at i9wsX11_feed_0 8 rfl) rfl gin_n)) (goodIn_sub i9wsX11_feed_1 g9_13)))
set_option maxRecDepth 20000 in
theorem gX11_feed_X11_putBytes : GoodIn wsX11_feed (wsV RX11 67 RX11 yX11_putBytes wsX11_putBytes) := goodIn_app (gin_c (mem_at i9wsX11_feed_0 3 rfl) rfl (gin_c (mem_at i9wsX11_feed_0 4 rfl) rfl (gin_c (mem_at i9wsX11_feed_0 5 rfl) rfl (gin_c (mem_at i9wsX11_feed_0 6 rfl) rfl gin_n)))) ggX11_feed_X11_putBytes
set_option maxHeartbeats 4000000 in
set_option maxRecDepth 100000 in
theorem T_X11_feed (l : Launch) (hl : l.stackTraces = false) (D : va_G) (cA : Nat → ClassId) {l0 : Option Nat} {l1 : Int32} {l2 : Int32} {l3 : Int32} {l4 : Int32} {l5 : Int32} {x : HS} {Q : Int32 → HS → Prop} {X : String → HS → Prop} (h : w_X11_feed l0 l1 l2 l3 l4 l5 x Q X) : YI l yX11_feed wsX11_feed 6 90 D cA [.q l0, .i l1, .i l2, .i l3, .i l4, .i l5] x Q X := by
  refine YI.of (cc := cX11_feed) (maxL := 6) (ret := (some .int)) hl (by decide) rfl rfl (fun g B fr => ?_)
  have o := B.o
  have hb := B.hb
  have hts := B.hts
  have hown : g.s.vm.findClass RX11 = some g.m.cls := B.hown
  have in11 : ∀ w ∈ u_ws RX11 TX11 12, w ∈ wsX11_feed := fun w h => (List.mem_cons_of_mem _ (List.mem_append_left _ (List.mem_append_right _ h)))
  unfold w_X11_feed at h
  show KW g 6 0 [(0, .q l0), (1, .i l1), (2, .i l2), (3, .i l3), (4, .i l4), (5, .i l5)] [] x
  refine k_aload_n o hb dX11_feed_0 rfl 0 rfl ?_
  refine k_getI (C := RX11) (T := TX11) (N := 12) o hb hts in11 hown rfl (by decide) 9 (by decide) rfl (hts (.fieldLink RX11 56 "FactKeeper" "tapeLength" "I") (by decide +kernel)) (fun _ h9 => h9) dX11_feed_1 h (fun v1 h => ?_)
  refine k_sipush (v := 380) o hb dX11_feed_4 (by decide) ?_
  refine k_icmp_le (tgt := 20) o hb dX11_feed_7 (by decide) h (fun h => ?_) (fun h => ?_)
  · skip
    refine k_aload_n o hb dX11_feed_20 rfl 0 rfl ?_
    refine k_iload_n o hb dX11_feed_21 rfl 1 rfl ?_
    refine k_run_v o (fun _ _ q => q) (k_runV (ci := 11) (rc := (RX11, TX11, 12)) o hb B.hml hown hts rfl (by decide) (T_X11_putBytes g.l o.hl g.D g.cA h.2) (cwV 1 hts gX11_feed_X11_putBytes rfl rfl rfl (by decide +kernel) ⟨yle B.hR1 rfl, yle B.hR2 rfl⟩) h.1 rfl rfl (Nat.le_of_ble_eq_true rfl) dX11_feed_22) (fun x2 h => ?_)
    refine k_aload_n o hb dX11_feed_25 rfl 0 rfl ?_
    refine k_iload_n o hb dX11_feed_26 rfl 2 rfl ?_
    refine k_run_v o (fun _ _ q => q) (k_runV (ci := 11) (rc := (RX11, TX11, 12)) o hb B.hml hown hts rfl (by decide) (T_X11_putBytes g.l o.hl g.D g.cA h.2) (cwV 1 hts gX11_feed_X11_putBytes rfl rfl rfl (by decide +kernel) ⟨yle B.hR1 rfl, yle B.hR2 rfl⟩) h.1 rfl rfl (Nat.le_of_ble_eq_true rfl) dX11_feed_27) (fun x4 h => ?_)
    refine k_aload_n o hb dX11_feed_30 rfl 0 rfl ?_
    refine k_iload_n o hb dX11_feed_31 rfl 3 rfl ?_
    refine k_run_v o (fun _ _ q => q) (k_runV (ci := 11) (rc := (RX11, TX11, 12)) o hb B.hml hown hts rfl (by decide) (T_X11_putBytes g.l o.hl g.D g.cA h.2) (cwV 1 hts gX11_feed_X11_putBytes rfl rfl rfl (by decide +kernel) ⟨yle B.hR1 rfl, yle B.hR2 rfl⟩) h.1 rfl rfl (Nat.le_of_ble_eq_true rfl) dX11_feed_32) (fun x6 h => ?_)
    refine k_aload_n o hb dX11_feed_35 rfl 0 rfl ?_
    refine k_iload o hb dX11_feed_36 4 rfl ?_
    refine k_run_v o (fun _ _ q => q) (k_runV (ci := 11) (rc := (RX11, TX11, 12)) o hb B.hml hown hts rfl (by decide) (T_X11_putBytes g.l o.hl g.D g.cA h.2) (cwV 1 hts gX11_feed_X11_putBytes rfl rfl rfl (by decide +kernel) ⟨yle B.hR1 rfl, yle B.hR2 rfl⟩) h.1 rfl rfl (Nat.le_of_ble_eq_true rfl) dX11_feed_38) (fun x8 h => ?_)
    refine k_aload_n o hb dX11_feed_41 rfl 0 rfl ?_
    refine k_iload o hb dX11_feed_42 5 rfl ?_
    refine k_run_v o (fun _ _ q => q) (k_runV (ci := 11) (rc := (RX11, TX11, 12)) o hb B.hml hown hts rfl (by decide) (T_X11_putBytes g.l o.hl g.D g.cA h.2) (cwV 1 hts gX11_feed_X11_putBytes rfl rfl rfl (by decide +kernel) ⟨yle B.hR1 rfl, yle B.hR2 rfl⟩) h.1 rfl rfl (Nat.le_of_ble_eq_true rfl) dX11_feed_44) (fun x10 h => ?_)
    refine k_aload_n o hb dX11_feed_47 rfl 0 rfl ?_
    refine k_getI (C := RX11) (T := TX11) (N := 12) o hb hts in11 hown rfl (by decide) 9 (by decide) rfl (hts (.fieldLink RX11 56 "FactKeeper" "tapeLength" "I") (by decide +kernel)) (fun _ h9 => h9) dX11_feed_48 h (fun v12 h => ?_)
    exact k_iret o hb B.hr fr dX11_feed_51 h
  · skip
    refine k_throw (E := eIB) o (fun H locs cells slots mc ms ls XC hls hS hc1 hs1 hc2 hs2 hx9 => ?_) h
    obtain ⟨sa, hsa⟩ := o.hZ.2.2.2.2.2.2.1.1
    exact vx_throwS (cls := eIB) (names := eSup) (A := g.A) o.hx hb o.hl hown (by decide +kernel) (by decide +kernel) (hts (.classLink RX11 60 "java/lang/IndexOutOfBoundsException") (by decide +kernel)) (hts (.initialized "java/lang/IndexOutOfBoundsException") (by decide +kernel)) hsa (tx_at hts (fun w h => (List.mem_cons_of_mem _ (List.mem_append_right _ h))) (by decide +kernel) o.hZ.2.2.2.1.2.2.2.1 o.hZ.2.2.2.2.2.2.2) (by decide +kernel) o.hZ.1 o.hZ.2.1 hS (hls.trans B.hml.symm) dX11_feed_10 dX11_feed_13 dX11_feed_14 dX11_feed_16 dX11_feed_19 (fun x h => (o.htb x h).elim) (ylt B.hR1 rfl) (by rw [lq_cats]; exact yle B.hR2 rfl) hc1 hs1 o.hlk (fun t ha h1 h2 => hx9 t ha h1 h2) hS.2.2 hc2 hs2
theorem dX11_requireRange_0 : decode cX11_requireRange 0 = .ok (.iload_n 0, 1) := by decide +kernel
theorem dX11_requireRange_1 : decode cX11_requireRange 1 = .ok (.iload_n 1, 1) := by decide +kernel
theorem dX11_requireRange_2 : decode cX11_requireRange 2 = .ok (.if_icmp .lt 8, 3) := by decide +kernel
theorem dX11_requireRange_5 : decode cX11_requireRange 5 = .ok (.iload_n 0, 1) := by decide +kernel
theorem dX11_requireRange_6 : decode cX11_requireRange 6 = .ok (.iload_n 2, 1) := by decide +kernel
theorem dX11_requireRange_7 : decode cX11_requireRange 7 = .ok (.if_icmp .le 14, 3) := by decide +kernel
theorem dX11_requireRange_10 : decode cX11_requireRange 10 = .ok (.new 336, 3) := by decide +kernel
theorem dX11_requireRange_13 : decode cX11_requireRange 13 = .ok (.dup, 1) := by decide +kernel
theorem dX11_requireRange_14 : decode cX11_requireRange 14 = .ok (.ldc_w 338, 3) := by decide +kernel
theorem dX11_requireRange_17 : decode cX11_requireRange 17 = .ok (.invokespecial 340, 3) := by decide +kernel
theorem dX11_requireRange_20 : decode cX11_requireRange 20 = .ok (.athrow, 1) := by decide +kernel
theorem dX11_requireRange_21 : decode cX11_requireRange 21 = .ok (.return_, 1) := by decide +kernel
set_option maxHeartbeats 4000000 in
set_option maxRecDepth 100000 in
theorem T_X11_requireRange (l : Launch) (hl : l.stackTraces = false) (D : va_G) (cA : Nat → ClassId) {l0 : Int32} {l1 : Int32} {l2 : Int32} {x : HS} {Q : HS → Prop} {X : String → HS → Prop} (h : w_X11_requireRange l0 l1 l2 x Q X) : YV l yX11_requireRange wsX11_requireRange 6 90 D cA [.i l0, .i l1, .i l2] x Q X := by
  refine YV.of (cc := cX11_requireRange) (maxL := 3) (ret := none) hl (by decide) rfl rfl (fun g B fr => ?_)
  have o := B.o
  have hb := B.hb
  have hts := B.hts
  have hown : g.s.vm.findClass RX11 = some g.m.cls := B.hown
  unfold w_X11_requireRange at h
  show KW g 3 0 [(0, .i l0), (1, .i l1), (2, .i l2)] [] x
  refine k_iload_n o hb dX11_requireRange_0 rfl 0 rfl ?_
  refine k_iload_n o hb dX11_requireRange_1 rfl 1 rfl ?_
  refine wJoin_elim (M := fun K => ∀  (x2 : HS), K  x2 → KW g 3 10 [] [] x2) h ?_ (fun j1 hj1 h => ?_)
  · skip
    intro  x2 h
    refine k_throw (E := eIA) o (fun H locs cells slots mc ms ls XC hls hS hc1 hs1 hc2 hs2 hx9 => ?_) h
    obtain ⟨sa, hsa⟩ := o.hZ.2.2.2.2.2.2.1.2.1
    exact vx_throwSW (cls := eIA) (names := eSup) (A := g.A) o.hx hb o.hl hown (by decide +kernel) (by decide +kernel) (hts (.classLink RX11 336 "java/lang/IllegalArgumentException") (by decide +kernel)) (hts (.initialized "java/lang/IllegalArgumentException") (by decide +kernel)) hsa (tx_at hts (fun w h => (List.mem_cons_of_mem _ (List.mem_append_right _ h))) (by decide +kernel) o.hZ.2.2.2.1.1 o.hZ.2.2.2.2.2.2.2) (by decide +kernel) o.hZ.1 o.hZ.2.1 hS (hls.trans B.hml.symm) dX11_requireRange_10 dX11_requireRange_13 dX11_requireRange_14 dX11_requireRange_17 dX11_requireRange_20 (fun x h => (o.htb x h).elim) (ylt B.hR1 rfl) (by rw [lq_cats]; exact yle B.hR2 rfl) hc1 hs1 o.hlk (fun t ha h1 h2 => hx9 t ha h1 h2) hS.2.2 hc2 hs2
  · skip
    refine k_icmp_lt (tgt := 10) o hb dX11_requireRange_2 (by decide) h (fun h => ?_) (fun h => ?_)
    · skip
      exact KW.sub [] rfl (hj1 x h)
    · skip
      refine k_iload_n o hb dX11_requireRange_5 rfl 0 rfl ?_
      refine k_iload_n o hb dX11_requireRange_6 rfl 2 rfl ?_
      refine k_icmp_le (tgt := 21) o hb dX11_requireRange_7 (by decide) h (fun h => ?_) (fun h => ?_)
      · skip
        exact k_vret o hb B.hr fr dX11_requireRange_21 h
      · skip
        exact KW.sub [] rfl (hj1 x h)
theorem dX11_end_0 : decode cX11_end 0 = .ok (.iload_n 1, 1) := by decide +kernel
theorem dX11_end_1 : decode cX11_end 1 = .ok (.iconst 0, 1) := by decide +kernel
theorem dX11_end_2 : decode cX11_end 2 = .ok (.aload_n 0, 1) := by decide +kernel
theorem dX11_end_3 : decode cX11_end 3 = .ok (.getfield 56, 3) := by decide +kernel
theorem dX11_end_6 : decode cX11_end 6 = .ok (.invokestatic 71, 3) := by decide +kernel
theorem dX11_end_9 : decode cX11_end 9 = .ok (.aload_n 0, 1) := by decide +kernel
theorem dX11_end_10 : decode cX11_end 10 = .ok (.iload_n 1, 1) := by decide +kernel
theorem dX11_end_11 : decode cX11_end 11 = .ok (.putfield 56, 3) := by decide +kernel
theorem dX11_end_14 : decode cX11_end 14 = .ok (.iload_n 1, 1) := by decide +kernel
theorem dX11_end_15 : decode cX11_end 15 = .ok (.ireturn, 1) := by decide +kernel
theorem i9wsX11_end_0 : ∀ w ∈ ([.fieldLink RX11 56 "FactKeeper" "tapeLength" "I", .methodLink RX11 71 yX11_requireRange, .static yX11_requireRange, .initialized RX11, .code yX11_requireRange cX11_requireRange 3 none, .classLink RX11 336 "java/lang/IllegalArgumentException", .initialized "java/lang/IllegalArgumentException"] : List Cond), w ∈ wsX11_end := fun _ h => (List.mem_cons_of_mem _ (List.mem_append_left _ (List.mem_append_left _ h)))
theorem i9wsX11_end_2 : ∀ w ∈ ((vx_atS RX11 340 "java/lang/IllegalArgumentException" ["java/lang/RuntimeException", "java/lang/Exception"]).filter goodWord), w ∈ wsX11_end := fun _ h => (List.mem_cons_of_mem _ (List.mem_append_right _ h))
set_option maxRecDepth 20000 in
theorem ggX11_end_X11_requireRange : GoodIn wsX11_end wsX11_requireRange := (gin_c (mem_at i9wsX11_end_0 4 rfl) rfl (goodIn_app (gin_c (mem_at i9wsX11_end_0 5 rfl) rfl (gin_c (mem_at i9wsX11_end_0 6 rfl) rfl gin_n)) (goodIn_sub i9wsX11_end_2 g9_14)))
set_option maxRecDepth 20000 in
theorem gX11_end_X11_requireRange : GoodIn wsX11_end (va_wsS RX11 71 yX11_requireRange wsX11_requireRange) := goodIn_app (gin_c (mem_at i9wsX11_end_0 1 rfl) rfl (gin_c (mem_at i9wsX11_end_0 2 rfl) rfl (gin_c (mem_at i9wsX11_end_0 3 rfl) rfl gin_n))) ggX11_end_X11_requireRange
set_option maxHeartbeats 4000000 in
set_option maxRecDepth 100000 in
theorem T_X11_end (l : Launch) (hl : l.stackTraces = false) (D : va_G) (cA : Nat → ClassId) {l0 : Option Nat} {l1 : Int32} {x : HS} {Q : Int32 → HS → Prop} {X : String → HS → Prop} (h : w_X11_end l0 l1 x Q X) : YI l yX11_end wsX11_end 7 112 D cA [.q l0, .i l1] x Q X := by
  refine YI.of (cc := cX11_end) (maxL := 2) (ret := (some .int)) hl (by decide) rfl rfl (fun g B fr => ?_)
  have o := B.o
  have hb := B.hb
  have hts := B.hts
  have hown : g.s.vm.findClass RX11 = some g.m.cls := B.hown
  have in11 : ∀ w ∈ u_ws RX11 TX11 12, w ∈ wsX11_end := fun w h => (List.mem_cons_of_mem _ (List.mem_append_left _ (List.mem_append_right _ h)))
  unfold w_X11_end at h
  show KW g 2 0 [(0, .q l0), (1, .i l1)] [] x
  refine k_iload_n o hb dX11_end_0 rfl 1 rfl ?_
  refine k_iconst (v := 0) o hb dX11_end_1 (by decide) ?_
  refine k_aload_n o hb dX11_end_2 rfl 0 rfl ?_
  refine k_getI (C := RX11) (T := TX11) (N := 12) o hb hts in11 hown rfl (by decide) 9 (by decide) rfl (hts (.fieldLink RX11 56 "FactKeeper" "tapeLength" "I") (by decide +kernel)) (fun _ h9 => h9) dX11_end_3 h (fun v1 h => ?_)
  refine k_run_v o (fun _ _ q => q) (k_runS o hb B.hml hown hts (T_X11_requireRange g.l o.hl g.D g.cA h) (va_cwS 3 hts gX11_end_X11_requireRange rfl rfl rfl (by decide +kernel) ⟨yle B.hR1 rfl, yle B.hR2 rfl⟩) rfl rfl (Nat.le_of_ble_eq_true rfl) dX11_end_6) (fun x2 h => ?_)
  refine k_aload_n o hb dX11_end_9 rfl 0 rfl ?_
  refine k_iload_n o hb dX11_end_10 rfl 1 rfl ?_
  refine k_putI (C := RX11) (T := TX11) (N := 12) (ty := .int) o hb hts in11 tyX11 tyX11_ok nmX11 hown rfl (by decide) 9 (by decide) rfl (hts (.fieldLink RX11 56 "FactKeeper" "tapeLength" "I") (by decide +kernel)) (fun _ h9 => h9) rfl (by decide +kernel) (fun _ => rfl) (fun _ => rfl) dX11_end_11 h (fun x4 h => ?_)
  refine k_iload_n o hb dX11_end_14 rfl 1 rfl ?_
  exact k_iret o hb B.hr fr dX11_end_15 h
theorem dX11_value_0 : decode cX11_value 0 = .ok (.iload_n 1, 1) := by decide +kernel
theorem dX11_value_1 : decode cX11_value 1 = .ok (.iconst 0, 1) := by decide +kernel
theorem dX11_value_2 : decode cX11_value 2 = .ok (.iconst 3, 1) := by decide +kernel
theorem dX11_value_3 : decode cX11_value 3 = .ok (.invokestatic 71, 3) := by decide +kernel
theorem dX11_value_6 : decode cX11_value 6 = .ok (.aload_n 0, 1) := by decide +kernel
theorem dX11_value_7 : decode cX11_value 7 = .ok (.getfield 13, 3) := by decide +kernel
theorem dX11_value_10 : decode cX11_value 10 = .ok (.iload_n 1, 1) := by decide +kernel
theorem dX11_value_11 : decode cX11_value 11 = .ok (.iaload, 1) := by decide +kernel
theorem dX11_value_12 : decode cX11_value 12 = .ok (.istore_n 3, 1) := by decide +kernel
theorem dX11_value_13 : decode cX11_value 13 = .ok (.aload_n 0, 1) := by decide +kernel
theorem dX11_value_14 : decode cX11_value 14 = .ok (.getfield 13, 3) := by decide +kernel
theorem dX11_value_17 : decode cX11_value 17 = .ok (.iload_n 1, 1) := by decide +kernel
theorem dX11_value_18 : decode cX11_value 18 = .ok (.iload_n 2, 1) := by decide +kernel
theorem dX11_value_19 : decode cX11_value 19 = .ok (.iastore, 1) := by decide +kernel
theorem dX11_value_20 : decode cX11_value 20 = .ok (.iload_n 3, 1) := by decide +kernel
theorem dX11_value_21 : decode cX11_value 21 = .ok (.ireturn, 1) := by decide +kernel
theorem i9wsX11_value_0 : ∀ w ∈ ([.fieldLink RX11 13 "FactKeeper" "values" "[I", .methodLink RX11 71 yX11_requireRange, .static yX11_requireRange, .initialized RX11, .code yX11_requireRange cX11_requireRange 3 none, .classLink RX11 336 "java/lang/IllegalArgumentException", .initialized "java/lang/IllegalArgumentException"] : List Cond), w ∈ wsX11_value := fun _ h => (List.mem_cons_of_mem _ (List.mem_append_left _ (List.mem_append_left _ h)))
theorem i9wsX11_value_2 : ∀ w ∈ ((vx_atS RX11 340 "java/lang/IllegalArgumentException" ["java/lang/RuntimeException", "java/lang/Exception"]).filter goodWord), w ∈ wsX11_value := fun _ h => (List.mem_cons_of_mem _ (List.mem_append_right _ h))
set_option maxRecDepth 20000 in
theorem ggX11_value_X11_requireRange : GoodIn wsX11_value wsX11_requireRange := (gin_c (mem_at i9wsX11_value_0 4 rfl) rfl (goodIn_app (gin_c (mem_at i9wsX11_value_0 5 rfl) rfl (gin_c (mem_at i9wsX11_value_0 6 rfl) rfl gin_n)) (goodIn_sub i9wsX11_value_2 g9_14)))
set_option maxRecDepth 20000 in
theorem gX11_value_X11_requireRange : GoodIn wsX11_value (va_wsS RX11 71 yX11_requireRange wsX11_requireRange) := goodIn_app (gin_c (mem_at i9wsX11_value_0 1 rfl) rfl (gin_c (mem_at i9wsX11_value_0 2 rfl) rfl (gin_c (mem_at i9wsX11_value_0 3 rfl) rfl gin_n))) ggX11_value_X11_requireRange
set_option maxHeartbeats 4000000 in
set_option maxRecDepth 100000 in
theorem T_X11_value (l : Launch) (hl : l.stackTraces = false) (D : va_G) (cA : Nat → ClassId) {l0 : Option Nat} {l1 : Int32} {l2 : Int32} {x : HS} {Q : Int32 → HS → Prop} {X : String → HS → Prop} (h : w_X11_value l0 l1 l2 x Q X) : YI l yX11_value wsX11_value 7 112 D cA [.q l0, .i l1, .i l2] x Q X := by
  refine YI.of (cc := cX11_value) (maxL := 4) (ret := (some .int)) hl (by decide) rfl rfl (fun g B fr => ?_)
  have o := B.o
  have hb := B.hb
  have hts := B.hts
  have hown : g.s.vm.findClass RX11 = some g.m.cls := B.hown
  have in11 : ∀ w ∈ u_ws RX11 TX11 12, w ∈ wsX11_value := fun w h => (List.mem_cons_of_mem _ (List.mem_append_left _ (List.mem_append_right _ h)))
  unfold w_X11_value at h
  show KW g 4 0 [(0, .q l0), (1, .i l1), (2, .i l2)] [] x
  refine k_iload_n o hb dX11_value_0 rfl 1 rfl ?_
  refine k_iconst (v := 0) o hb dX11_value_1 (by decide) ?_
  refine k_iconst (v := 3) o hb dX11_value_2 (by decide) ?_
  refine k_run_v o (fun _ _ q => q) (k_runS o hb B.hml hown hts (T_X11_requireRange g.l o.hl g.D g.cA h) (va_cwS 3 hts gX11_value_X11_requireRange rfl rfl rfl (by decide +kernel) ⟨yle B.hR1 rfl, yle B.hR2 rfl⟩) rfl rfl (Nat.le_of_ble_eq_true rfl) dX11_value_3) (fun x1 h => ?_)
  refine k_aload_n o hb dX11_value_6 rfl 0 rfl ?_
  refine k_getF (C := RX11) (T := TX11) (N := 12) o hb hts in11 hown rfl (by decide) 1 (by decide) rfl (hts (.fieldLink RX11 13 "FactKeeper" "values" "[I") (by decide +kernel)) (fun _ h9 => h9) dX11_value_7 h (fun v3 h => ?_)
  refine k_iload_n o hb dX11_value_10 rfl 1 rfl ?_
  refine k_iald o hb dX11_value_11 h (fun v4 h => ?_)
  refine k_istore_n o hb dX11_value_12 rfl rfl ?_
  refine k_aload_n o hb dX11_value_13 rfl 1 rfl ?_
  refine k_getF (C := RX11) (T := TX11) (N := 12) o hb hts in11 hown rfl (by decide) 1 (by decide) rfl (hts (.fieldLink RX11 13 "FactKeeper" "values" "[I") (by decide +kernel)) (fun _ h9 => h9) dX11_value_14 h (fun v5 h => ?_)
  refine k_iload_n o hb dX11_value_17 rfl 2 rfl ?_
  refine k_iload_n o hb dX11_value_18 rfl 3 rfl ?_
  refine k_iast o hb dX11_value_19 h (fun x6 h => ?_)
  refine k_iload_n o hb dX11_value_20 rfl 0 rfl ?_
  exact k_iret o hb B.hr fr dX11_value_21 h
theorem dX11_table_0 : decode cX11_table 0 = .ok (.iload_n 1, 1) := by decide +kernel
theorem dX11_table_1 : decode cX11_table 1 = .ok (.iconst 1, 1) := by decide +kernel
theorem dX11_table_2 : decode cX11_table 2 = .ok (.iconst 4, 1) := by decide +kernel
theorem dX11_table_3 : decode cX11_table 3 = .ok (.invokestatic 71, 3) := by decide +kernel
theorem dX11_table_6 : decode cX11_table 6 = .ok (.aload_n 0, 1) := by decide +kernel
theorem dX11_table_7 : decode cX11_table 7 = .ok (.getfield 20, 3) := by decide +kernel
theorem dX11_table_10 : decode cX11_table 10 = .ok (.iload_n 1, 1) := by decide +kernel
theorem dX11_table_11 : decode cX11_table 11 = .ok (.invokevirtual 75, 3) := by decide +kernel
theorem dX11_table_14 : decode cX11_table 14 = .ok (.istore_n 2, 1) := by decide +kernel
theorem dX11_table_15 : decode cX11_table 15 = .ok (.iload_n 2, 1) := by decide +kernel
theorem dX11_table_16 : decode cX11_table 16 = .ok (.iconst (-1), 1) := by decide +kernel
theorem dX11_table_17 : decode cX11_table 17 = .ok (.if_icmp .ne 13, 3) := by decide +kernel
theorem dX11_table_20 : decode cX11_table 20 = .ok (.new 79, 3) := by decide +kernel
theorem dX11_table_23 : decode cX11_table 23 = .ok (.dup, 1) := by decide +kernel
theorem dX11_table_24 : decode cX11_table 24 = .ok (.ldc 81, 2) := by decide +kernel
theorem dX11_table_26 : decode cX11_table 26 = .ok (.invokespecial 83, 3) := by decide +kernel
theorem dX11_table_29 : decode cX11_table 29 = .ok (.athrow, 1) := by decide +kernel
theorem dX11_table_30 : decode cX11_table 30 = .ok (.iload_n 2, 1) := by decide +kernel
theorem dX11_table_31 : decode cX11_table 31 = .ok (.ireturn, 1) := by decide +kernel
theorem i9wsX11_table_0 : ∀ w ∈ wsX11_table_r1, w ∈ wsX11_table := fun _ h => (List.mem_cons_of_mem _ (List.mem_append_left _ (List.mem_append_left _ (List.mem_append_left _ (List.mem_append_left _ (List.mem_append_left _ (List.mem_append_left _ (List.mem_append_left _ h))))))))
theorem i9wsX11_table_7 : ∀ w ∈ ((vx_atS RX11 340 "java/lang/IllegalArgumentException" ["java/lang/RuntimeException", "java/lang/Exception"]).filter goodWord), w ∈ wsX11_table := fun _ h => (List.mem_cons_of_mem _ (List.mem_append_right _ h))
set_option maxRecDepth 20000 in
theorem ggX11_table_X11_requireRange : GoodIn wsX11_table wsX11_requireRange := (gin_c (mem_at i9wsX11_table_0 6 rfl) rfl (goodIn_app (gin_c (mem_at i9wsX11_table_0 7 rfl) rfl (gin_c (mem_at i9wsX11_table_0 8 rfl) rfl gin_n)) (goodIn_sub i9wsX11_table_7 g9_14)))
set_option maxRecDepth 20000 in
theorem gX11_table_X11_requireRange : GoodIn wsX11_table (va_wsS RX11 71 yX11_requireRange wsX11_requireRange) := goodIn_app (gin_c (mem_at i9wsX11_table_0 3 rfl) rfl (gin_c (mem_at i9wsX11_table_0 4 rfl) rfl (gin_c (mem_at i9wsX11_table_0 5 rfl) rfl gin_n))) ggX11_table_X11_requireRange
theorem i9wsX11_table_1 : ∀ w ∈ wsX11_table_r2, w ∈ wsX11_table := fun _ h => (List.mem_cons_of_mem _ (List.mem_append_left _ (List.mem_append_left _ (List.mem_append_left _ (List.mem_append_left _ (List.mem_append_left _ (List.mem_append_left _ (List.mem_append_right _ h))))))))
theorem i9wsX11_table_3 : ∀ w ∈ wsX90, w ∈ wsX11_table := fun _ h => (List.mem_cons_of_mem _ (List.mem_append_left _ (List.mem_append_left _ (List.mem_append_left _ (List.mem_append_left _ (List.mem_append_right _ h))))))
theorem i9wsX11_table_4 : ∀ w ∈ wsX100, w ∈ wsX11_table := fun _ h => (List.mem_cons_of_mem _ (List.mem_append_left _ (List.mem_append_left _ (List.mem_append_left _ (List.mem_append_right _ h)))))
theorem i9wsX11_table_5 : ∀ w ∈ wsX00, w ∈ wsX11_table := fun _ h => (List.mem_cons_of_mem _ (List.mem_append_left _ (List.mem_append_left _ (List.mem_append_right _ h))))
set_option maxRecDepth 20000 in
theorem ggX11_table_X9_makeTable : GoodIn wsX11_table wsX9_makeTable := (gin_c (mem_at i9wsX11_table_0 13 rfl) rfl (goodIn_app (goodIn_app (goodIn_app (goodIn_app (gin_c (mem_at i9wsX11_table_0 14 rfl) rfl (gin_c (mem_at i9wsX11_table_0 15 rfl) rfl (gin_c (mem_at i9wsX11_table_0 16 rfl) rfl (gin_c (mem_at i9wsX11_table_0 17 rfl) rfl (gin_c (mem_at i9wsX11_table_0 18 rfl) rfl (gin_c (mem_at i9wsX11_table_0 19 rfl) rfl (gin_c (mem_at i9wsX11_table_0 20 rfl) rfl (gin_c (mem_at i9wsX11_table_0 21 rfl) rfl (gin_c (mem_at i9wsX11_table_0 22 rfl) rfl (gin_c (mem_at i9wsX11_table_0 23 rfl) rfl (gin_c (mem_at i9wsX11_table_1 0 rfl) rfl (gin_c (mem_at i9wsX11_table_1 1 rfl) rfl (gin_c (mem_at i9wsX11_table_1 2 rfl) rfl (gin_c (mem_at i9wsX11_table_1 3 rfl) rfl (gin_c (mem_at i9wsX11_table_1 4 rfl) rfl (gin_c (mem_at i9wsX11_table_1 5 rfl) rfl (gin_c (mem_at i9wsX11_table_1 6 rfl) rfl (gin_c (mem_at i9wsX11_table_1 7 rfl) rfl (gin_c (mem_at i9wsX11_table_1 8 rfl) rfl (gin_c (mem_at i9wsX11_table_1 9 rfl) rfl (gin_c (mem_at i9wsX11_table_1 10 rfl) rfl (gin_c (mem_at i9wsX11_table_1 11 rfl) rfl (gin_c (mem_at i9wsX11_table_1 12 rfl) rfl (gin_c (mem_at i9wsX11_table_1 13 rfl) rfl gin_n)))))))))))))))))))))))) (gin_c (mem_at i9wsX11_table_1 14 rfl) rfl (gin_c (mem_at i9wsX11_table_1 15 rfl) rfl (gin_c (mem_at i9wsX11_table_1 16 rfl) rfl (gin_c (mem_at i9wsX11_table_1 17 rfl) rfl gin_n))))) (goodIn_sub i9wsX11_table_3 g9_5)) (goodIn_sub i9wsX11_table_4 g9_3)) (goodIn_sub i9wsX11_table_5 g9_1)))
set_option maxRecDepth 20000 in
theorem gX11_table_X9_makeTable : GoodIn wsX11_table (wsV RX11 75 RX9 yX9_makeTable wsX9_makeTable) := goodIn_app (gin_c (mem_at i9wsX11_table_0 9 rfl) rfl (gin_c (mem_at i9wsX11_table_0 10 rfl) rfl (gin_c (mem_at i9wsX11_table_0 11 rfl) rfl (gin_c (mem_at i9wsX11_table_0 12 rfl) rfl gin_n)))) ggX11_table_X9_makeTable
set_option maxHeartbeats 4000000 in
set_option maxRecDepth 100000 in
theorem T_X11_table (l : Launch) (hl : l.stackTraces = false) (D : va_G) (cA : Nat → ClassId) {l0 : Option Nat} {l1 : Int32} {x : HS} {Q : Int32 → HS → Prop} {X : String → HS → Prop} (h : w_X11_table l0 l1 x Q X) : YI l yX11_table wsX11_table 7 112 D cA [.q l0, .i l1] x Q X := by
  refine YI.of (cc := cX11_table) (maxL := 3) (ret := (some .int)) hl (by decide) rfl rfl (fun g B fr => ?_)
  have o := B.o
  have hb := B.hb
  have hts := B.hts
  have hown : g.s.vm.findClass RX11 = some g.m.cls := B.hown
  have in11 : ∀ w ∈ u_ws RX11 TX11 12, w ∈ wsX11_table := fun w h => (List.mem_cons_of_mem _ (List.mem_append_left _ (List.mem_append_left _ (List.mem_append_left _ (List.mem_append_left _ (List.mem_append_left _ (List.mem_append_right _ h)))))))
  unfold w_X11_table at h
  show KW g 3 0 [(0, .q l0), (1, .i l1)] [] x
  refine k_iload_n o hb dX11_table_0 rfl 1 rfl ?_
  refine k_iconst (v := 1) o hb dX11_table_1 (by decide) ?_
  refine k_iconst (v := 4) o hb dX11_table_2 (by decide) ?_
  refine k_run_v o (fun _ _ q => q) (k_runS o hb B.hml hown hts (T_X11_requireRange g.l o.hl g.D g.cA h) (va_cwS 3 hts gX11_table_X11_requireRange rfl rfl rfl (by decide +kernel) ⟨yle B.hR1 rfl, yle B.hR2 rfl⟩) rfl rfl (Nat.le_of_ble_eq_true rfl) dX11_table_3) (fun x1 h => ?_)
  refine k_aload_n o hb dX11_table_6 rfl 0 rfl ?_
  refine k_getF (C := RX11) (T := TX11) (N := 12) o hb hts in11 hown rfl (by decide) 2 (by decide) rfl (hts (.fieldLink RX11 20 "FactKeeper" "store" "LFactKeeper$Store;") (by decide +kernel)) (fun _ h9 => h9) dX11_table_7 h (fun v3 h => ?_)
  refine k_iload_n o hb dX11_table_10 rfl 1 rfl ?_
  refine k_run_i o (fun _ _ q => q) (k_runV (ci := 9) (rc := (RX9, TX9, 8)) o hb B.hml hown hts rfl (by decide) (T_X9_makeTable g.l o.hl g.D g.cA h.2) (cwV 1 hts gX11_table_X9_makeTable rfl rfl rfl (by decide +kernel) ⟨yle B.hR1 rfl, yle B.hR2 rfl⟩) h.1 rfl rfl (Nat.le_of_ble_eq_true rfl) dX11_table_11) (fun v5 x4 h => ?_)
  refine k_istore_n o hb dX11_table_14 rfl rfl ?_
  refine k_iload_n o hb dX11_table_15 rfl 0 rfl ?_
  refine k_iconst (v := (-1)) o hb dX11_table_16 (by decide) ?_
  refine k_icmp_ne (tgt := 30) o hb dX11_table_17 (by decide) h (fun h => ?_) (fun h => ?_)
  · skip
    refine k_throw (E := eIS) o (fun H locs cells slots mc ms ls XC hls hS hc1 hs1 hc2 hs2 hx9 => ?_) h
    obtain ⟨sa, hsa⟩ := o.hZ.2.2.2.2.2.2.1.2.2.1
    exact vx_throwS (cls := eIS) (names := eSup) (A := g.A) o.hx hb o.hl hown (by decide +kernel) (by decide +kernel) (hts (.classLink RX11 79 "java/lang/IllegalStateException") (by decide +kernel)) (hts (.initialized "java/lang/IllegalStateException") (by decide +kernel)) hsa (tx_at hts (fun w h => (List.mem_cons_of_mem _ (List.mem_append_left _ (List.mem_append_right _ h)))) (by decide +kernel) o.hZ.2.2.2.1.2.2.1 o.hZ.2.2.2.2.2.2.2) (by decide +kernel) o.hZ.1 o.hZ.2.1 hS (hls.trans B.hml.symm) dX11_table_20 dX11_table_23 dX11_table_24 dX11_table_26 dX11_table_29 (fun x h => (o.htb x h).elim) (ylt B.hR1 rfl) (by rw [lq_cats]; exact yle B.hR2 rfl) hc1 hs1 o.hlk (fun t ha h1 h2 => hx9 t ha h1 h2) hS.2.2 hc2 hs2
  · skip
    refine k_iload_n o hb dX11_table_30 rfl 0 rfl ?_
    exact k_iret o hb B.hr fr dX11_table_31 h
theorem dX11_tableOf_0 : decode cX11_tableOf 0 = .ok (.aload_n 0, 1) := by decide +kernel
theorem dX11_tableOf_1 : decode cX11_tableOf 1 = .ok (.getfield 20, 3) := by decide +kernel
theorem dX11_tableOf_4 : decode cX11_tableOf 4 = .ok (.iload_n 1, 1) := by decide +kernel
theorem dX11_tableOf_5 : decode cX11_tableOf 5 = .ok (.invokevirtual 327, 3) := by decide +kernel
theorem dX11_tableOf_8 : decode cX11_tableOf 8 = .ok (.astore_n 2, 1) := by decide +kernel
theorem dX11_tableOf_9 : decode cX11_tableOf 9 = .ok (.aload_n 2, 1) := by decide +kernel
theorem dX11_tableOf_10 : decode cX11_tableOf 10 = .ok (.ifnonnull 14, 3) := by decide +kernel
theorem dX11_tableOf_13 : decode cX11_tableOf 13 = .ok (.new 180, 3) := by decide +kernel
theorem dX11_tableOf_16 : decode cX11_tableOf 16 = .ok (.dup, 1) := by decide +kernel
theorem dX11_tableOf_17 : decode cX11_tableOf 17 = .ok (.ldc_w 334, 3) := by decide +kernel
theorem dX11_tableOf_20 : decode cX11_tableOf 20 = .ok (.invokespecial 184, 3) := by decide +kernel
theorem dX11_tableOf_23 : decode cX11_tableOf 23 = .ok (.athrow, 1) := by decide +kernel
theorem dX11_tableOf_24 : decode cX11_tableOf 24 = .ok (.aload_n 2, 1) := by decide +kernel
theorem dX11_tableOf_25 : decode cX11_tableOf 25 = .ok (.areturn, 1) := by decide +kernel
theorem i9wsX11_tableOf_0 : ∀ w ∈ ([.classLink RX11 180 "java/util/NoSuchElementException", .initialized "java/util/NoSuchElementException", .fieldLink RX11 20 "FactKeeper" "store" "LFactKeeper$Store;", .methodLink RX11 327 yX9_tableAt, .instanceMethod yX9_tableAt, .selects RX9 yX9_tableAt yX9_tableAt, .initialized RX9, .code yX9_tableAt cX9_tableAt 2 (some (.object "FactKeeper$Table")), .fieldLink RX9 30 "FactKeeper$Store" "tableCount" "I", .fieldLink RX9 11 "FactKeeper$Store" "tables" "[LFactKeeper$Table;"] : List Cond), w ∈ wsX11_tableOf := fun _ h => (List.mem_cons_of_mem _ (List.mem_append_left _ (List.mem_append_left _ (List.mem_append_left _ h))))
theorem i9wsX11_tableOf_2 : ∀ w ∈ wsX90, w ∈ wsX11_tableOf := fun _ h => (List.mem_cons_of_mem _ (List.mem_append_left _ (List.mem_append_right _ h)))
set_option maxRecDepth 20000 in
theorem ggX11_tableOf_X9_tableAt : GoodIn wsX11_tableOf wsX9_tableAt := (gin_c (mem_at i9wsX11_tableOf_0 7 rfl) rfl (goodIn_app (gin_c (mem_at i9wsX11_tableOf_0 8 rfl) rfl (gin_c (mem_at i9wsX11_tableOf_0 9 rfl) rfl gin_n)) (goodIn_sub i9wsX11_tableOf_2 g9_5)))
set_option maxRecDepth 20000 in
theorem gX11_tableOf_X9_tableAt : GoodIn wsX11_tableOf (wsV RX11 327 RX9 yX9_tableAt wsX9_tableAt) := goodIn_app (gin_c (mem_at i9wsX11_tableOf_0 3 rfl) rfl (gin_c (mem_at i9wsX11_tableOf_0 4 rfl) rfl (gin_c (mem_at i9wsX11_tableOf_0 5 rfl) rfl (gin_c (mem_at i9wsX11_tableOf_0 6 rfl) rfl gin_n)))) ggX11_tableOf_X9_tableAt
set_option maxHeartbeats 4000000 in
set_option maxRecDepth 100000 in
theorem T_X11_tableOf (l : Launch) (hl : l.stackTraces = false) (D : va_G) (cA : Nat → ClassId) {l0 : Option Nat} {l1 : Int32} {x : HS} {Q : Option Nat → HS → Prop} {X : String → HS → Prop} (h : w_X11_tableOf l0 l1 x Q X) : YQ l yX11_tableOf wsX11_tableOf 6 90 D cA [.q l0, .i l1] x Q X := by
  refine YQ.of (cc := cX11_tableOf) (maxL := 3) (ret := (some (.object "FactKeeper$Table"))) hl (by decide) rfl rfl (fun g B fr => ?_)
  have o := B.o
  have hb := B.hb
  have hts := B.hts
  have hown : g.s.vm.findClass RX11 = some g.m.cls := B.hown
  have in11 : ∀ w ∈ u_ws RX11 TX11 12, w ∈ wsX11_tableOf := fun w h => (List.mem_cons_of_mem _ (List.mem_append_left _ (List.mem_append_left _ (List.mem_append_right _ h))))
  unfold w_X11_tableOf at h
  show KW g 3 0 [(0, .q l0), (1, .i l1)] [] x
  refine k_aload_n o hb dX11_tableOf_0 rfl 0 rfl ?_
  refine k_getF (C := RX11) (T := TX11) (N := 12) o hb hts in11 hown rfl (by decide) 2 (by decide) rfl (hts (.fieldLink RX11 20 "FactKeeper" "store" "LFactKeeper$Store;") (by decide +kernel)) (fun _ h9 => h9) dX11_tableOf_1 h (fun v1 h => ?_)
  refine k_iload_n o hb dX11_tableOf_4 rfl 1 rfl ?_
  refine k_run_q o (fun _ _ q => q) (k_runV (ci := 9) (rc := (RX9, TX9, 8)) o hb B.hml hown hts rfl (by decide) (T_X9_tableAt g.l o.hl g.D g.cA h.2) (cwV 1 hts gX11_tableOf_X9_tableAt rfl rfl rfl (by decide +kernel) ⟨yle B.hR1 rfl, yle B.hR2 rfl⟩) h.1 rfl rfl (Nat.le_of_ble_eq_true rfl) dX11_tableOf_5) (fun v3 x2 h => ?_)
  refine k_astore_n o hb dX11_tableOf_8 rfl rfl ?_
  refine k_aload_n o hb dX11_tableOf_9 rfl 0 rfl ?_
  refine k_ifnonnull (tgt := 24) o hb dX11_tableOf_10 (by decide) h (fun h => ?_) (fun h => ?_)
  · skip
    refine k_throw (E := eNE) o (fun H locs cells slots mc ms ls XC hls hS hc1 hs1 hc2 hs2 hx9 => ?_) h
    obtain ⟨sa, hsa⟩ := o.hZ.2.2.2.2.2.2.1.2.2.2.1
    exact tn_throwSW (cls := eNE) (A := g.A) o.hx hb o.hl hown (by decide +kernel) (hts (.classLink RX11 180 "java/util/NoSuchElementException") (by decide +kernel)) (hts (.initialized "java/util/NoSuchElementException") (by decide +kernel)) hsa (tn_atw hts (fun w h => (List.mem_cons_of_mem _ (List.mem_append_right _ h))) (by decide +kernel) o.hZ.2.2.2.1.2.1 o.hZ.2.2.2.2.2.2.2) (by decide +kernel) o.hZ.1 o.hZ.2.1 hS (hls.trans B.hml.symm) dX11_tableOf_13 dX11_tableOf_16 dX11_tableOf_17 dX11_tableOf_20 dX11_tableOf_23 (fun x h => (o.htb x h).elim) (ylt B.hR1 rfl) (by rw [lq_cats]; exact yle B.hR2 rfl) hc1 hs1 o.hlk (fun t ha h1 h2 => hx9 t ha h1 h2) hS.2.2 hc2 hs2
  · skip
    refine k_aload_n o hb dX11_tableOf_24 rfl 0 rfl ?_
    exact k_aret o hb B.hr (Or.inl ⟨_, rfl⟩) fr dX11_tableOf_25 h
theorem dX11_index_0 : decode cX11_index 0 = .ok (.aload_n 0, 1) := by decide +kernel
theorem dX11_index_1 : decode cX11_index 1 = .ok (.iload_n 1, 1) := by decide +kernel
theorem dX11_index_2 : decode cX11_index 2 = .ok (.invokevirtual 84, 3) := by decide +kernel
theorem dX11_index_5 : decode cX11_index 5 = .ok (.astore_n 3, 1) := by decide +kernel
theorem dX11_index_6 : decode cX11_index 6 = .ok (.iload_n 2, 1) := by decide +kernel
theorem dX11_index_7 : decode cX11_index 7 = .ok (.iconst 0, 1) := by decide +kernel
theorem dX11_index_8 : decode cX11_index 8 = .ok (.aload_n 3, 1) := by decide +kernel
theorem dX11_index_9 : decode cX11_index 9 = .ok (.getfield 88, 3) := by decide +kernel
theorem dX11_index_12 : decode cX11_index 12 = .ok (.iconst 1, 1) := by decide +kernel
theorem dX11_index_13 : decode cX11_index 13 = .ok (.isub, 1) := by decide +kernel
theorem dX11_index_14 : decode cX11_index 14 = .ok (.invokestatic 71, 3) := by decide +kernel
theorem dX11_index_17 : decode cX11_index 17 = .ok (.aload_n 3, 1) := by decide +kernel
theorem dX11_index_18 : decode cX11_index 18 = .ok (.iload_n 2, 1) := by decide +kernel
theorem dX11_index_19 : decode cX11_index 19 = .ok (.invokevirtual 93, 3) := by decide +kernel
theorem dX11_index_22 : decode cX11_index 22 = .ok (.ifCond .eq 7, 3) := by decide +kernel
theorem dX11_index_25 : decode cX11_index 25 = .ok (.iconst 1, 1) := by decide +kernel
theorem dX11_index_26 : decode cX11_index 26 = .ok (.goto 4, 3) := by decide +kernel
theorem dX11_index_29 : decode cX11_index 29 = .ok (.iconst 0, 1) := by decide +kernel
theorem dX11_index_30 : decode cX11_index 30 = .ok (.ireturn, 1) := by decide +kernel
theorem i9wsX11_index_0 : ∀ w ∈ wsX11_index_r1, w ∈ wsX11_index := fun _ h => (List.mem_cons_of_mem _ (List.mem_append_left _ (List.mem_append_left _ (List.mem_append_left _ (List.mem_append_left _ (List.mem_append_left _ (List.mem_append_left _ (List.mem_append_left _ (List.mem_append_left _ (List.mem_append_left _ h))))))))))
theorem i9wsX11_index_5 : ∀ w ∈ wsX110, w ∈ wsX11_index := fun _ h => (List.mem_cons_of_mem _ (List.mem_append_left _ (List.mem_append_left _ (List.mem_append_left _ (List.mem_append_left _ (List.mem_append_left _ (List.mem_append_left _ (List.mem_append_right _ h))))))))
theorem i9wsX11_index_6 : ∀ w ∈ wsX90, w ∈ wsX11_index := fun _ h => (List.mem_cons_of_mem _ (List.mem_append_left _ (List.mem_append_left _ (List.mem_append_left _ (List.mem_append_left _ (List.mem_append_left _ (List.mem_append_right _ h)))))))
theorem i9wsX11_index_10 : ∀ w ∈ ((tn_at RX11 184 "java/util/NoSuchElementException").filter goodWord), w ∈ wsX11_index := fun _ h => (List.mem_cons_of_mem _ (List.mem_append_left _ (List.mem_append_right _ h)))
set_option maxRecDepth 20000 in
theorem ggX11_index_X11_tableOf : GoodIn wsX11_index wsX11_tableOf := (gin_c (mem_at i9wsX11_index_0 5 rfl) rfl (goodIn_app (goodIn_app (goodIn_app (gin_c (mem_at i9wsX11_index_0 6 rfl) rfl (gin_c (mem_at i9wsX11_index_0 7 rfl) rfl (gin_c (mem_at i9wsX11_index_0 8 rfl) rfl (gin_c (mem_at i9wsX11_index_0 9 rfl) rfl (gin_c (mem_at i9wsX11_index_0 10 rfl) rfl (gin_c (mem_at i9wsX11_index_0 11 rfl) rfl (gin_c (mem_at i9wsX11_index_0 12 rfl) rfl (gin_c (mem_at i9wsX11_index_0 13 rfl) rfl (gin_c (mem_at i9wsX11_index_0 14 rfl) rfl (gin_c (mem_at i9wsX11_index_0 15 rfl) rfl gin_n)))))))))) (goodIn_sub i9wsX11_index_5 g9_13)) (goodIn_sub i9wsX11_index_6 g9_5)) (goodIn_sub i9wsX11_index_10 g9_15)))
set_option maxRecDepth 20000 in
theorem gX11_index_X11_tableOf : GoodIn wsX11_index (wsV RX11 84 RX11 yX11_tableOf wsX11_tableOf) := goodIn_app (gin_c (mem_at i9wsX11_index_0 1 rfl) rfl (gin_c (mem_at i9wsX11_index_0 2 rfl) rfl (gin_c (mem_at i9wsX11_index_0 3 rfl) rfl (gin_c (mem_at i9wsX11_index_0 4 rfl) rfl gin_n)))) ggX11_index_X11_tableOf
theorem i9wsX11_index_11 : ∀ w ∈ ((vx_atS RX11 340 "java/lang/IllegalArgumentException" ["java/lang/RuntimeException", "java/lang/Exception"]).filter goodWord), w ∈ wsX11_index := fun _ h => (List.mem_cons_of_mem _ (List.mem_append_right _ h))
set_option maxRecDepth 20000 in
theorem ggX11_index_X11_requireRange : GoodIn wsX11_index wsX11_requireRange := (gin_c (mem_at i9wsX11_index_0 18 rfl) rfl (goodIn_app (gin_c (mem_at i9wsX11_index_0 19 rfl) rfl (gin_c (mem_at i9wsX11_index_0 20 rfl) rfl gin_n)) (goodIn_sub i9wsX11_index_11 g9_14)))
set_option maxRecDepth 20000 in
theorem gX11_index_X11_requireRange : GoodIn wsX11_index (va_wsS RX11 71 yX11_requireRange wsX11_requireRange) := goodIn_app (gin_c (mem_at i9wsX11_index_0 16 rfl) rfl (gin_c (mem_at i9wsX11_index_0 17 rfl) rfl (gin_c (mem_at i9wsX11_index_0 4 rfl) rfl gin_n))) ggX11_index_X11_requireRange
theorem i9wsX11_index_1 : ∀ w ∈ wsX11_index_r2, w ∈ wsX11_index := fun _ h => (List.mem_cons_of_mem _ (List.mem_append_left _ (List.mem_append_left _ (List.mem_append_left _ (List.mem_append_left _ (List.mem_append_left _ (List.mem_append_left _ (List.mem_append_left _ (List.mem_append_left _ (List.mem_append_right _ (List.mem_append_left _ h)))))))))))
theorem i9wsX11_index_2 : ∀ w ∈ wsX11_index_r3, w ∈ wsX11_index := fun _ h => (List.mem_cons_of_mem _ (List.mem_append_left _ (List.mem_append_left _ (List.mem_append_left _ (List.mem_append_left _ (List.mem_append_left _ (List.mem_append_left _ (List.mem_append_left _ (List.mem_append_left _ (List.mem_append_right _ (List.mem_append_right _ (List.mem_append_left _ h))))))))))))
theorem i9wsX11_index_3 : ∀ w ∈ wsX11_index_r4, w ∈ wsX11_index := fun _ h => (List.mem_cons_of_mem _ (List.mem_append_left _ (List.mem_append_left _ (List.mem_append_left _ (List.mem_append_left _ (List.mem_append_left _ (List.mem_append_left _ (List.mem_append_left _ (List.mem_append_left _ (List.mem_append_right _ (List.mem_append_right _ (List.mem_append_right _ h))))))))))))
theorem i9wsX11_index_4 : ∀ w ∈ wsX100, w ∈ wsX11_index := fun _ h => (List.mem_cons_of_mem _ (List.mem_append_left _ (List.mem_append_left _ (List.mem_append_left _ (List.mem_append_left _ (List.mem_append_left _ (List.mem_append_left _ (List.mem_append_left _ (List.mem_append_right _ h)))))))))
theorem i9wsX11_index_7 : ∀ w ∈ wsX40, w ∈ wsX11_index := fun _ h => (List.mem_cons_of_mem _ (List.mem_append_left _ (List.mem_append_left _ (List.mem_append_left _ (List.mem_append_left _ (List.mem_append_right _ h))))))
theorem i9wsX11_index_8 : ∀ w ∈ wsX00, w ∈ wsX11_index := fun _ h => (List.mem_cons_of_mem _ (List.mem_append_left _ (List.mem_append_left _ (List.mem_append_left _ (List.mem_append_right _ h)))))
theorem i9wsX11_index_9 : ∀ w ∈ wsX10, w ∈ wsX11_index := fun _ h => (List.mem_cons_of_mem _ (List.mem_append_left _ (List.mem_append_left _ (List.mem_append_right _ h))))
set_option maxRecDepth 20000 in
theorem ggX11_index_X10_makeIndex : GoodIn wsX11_index wsX10_makeIndex := (gin_c (mem_at i9wsX11_index_1 1 rfl) rfl (goodIn_app (goodIn_app (goodIn_app (goodIn_app (goodIn_app (gin_c (mem_at i9wsX11_index_1 2 rfl) rfl (gin_c (mem_at i9wsX11_index_1 3 rfl) rfl (gin_c (mem_at i9wsX11_index_1 4 rfl) rfl (gin_c (mem_at i9wsX11_index_1 5 rfl) rfl (gin_c (mem_at i9wsX11_index_1 6 rfl) rfl (gin_c (mem_at i9wsX11_index_1 7 rfl) rfl (gin_c (mem_at i9wsX11_index_1 8 rfl) rfl (gin_c (mem_at i9wsX11_index_1 9 rfl) rfl (gin_c (mem_at i9wsX11_index_1 10 rfl) rfl (gin_c (mem_at i9wsX11_index_1 11 rfl) rfl (gin_c (mem_at i9wsX11_index_1 12 rfl) rfl (gin_c (mem_at i9wsX11_index_1 13 rfl) rfl (gin_c (mem_at i9wsX11_index_1 14 rfl) rfl (gin_c (mem_at i9wsX11_index_1 15 rfl) rfl (gin_c (mem_at i9wsX11_index_1 16 rfl) rfl (gin_c (mem_at i9wsX11_index_1 17 rfl) rfl (gin_c (mem_at i9wsX11_index_1 18 rfl) rfl (gin_c (mem_at i9wsX11_index_1 19 rfl) rfl (gin_c (mem_at i9wsX11_index_1 20 rfl) rfl (gin_c (mem_at i9wsX11_index_1 21 rfl) rfl (gin_c (mem_at i9wsX11_index_1 22 rfl) rfl (gin_c (mem_at i9wsX11_index_1 23 rfl) rfl (gin_c (mem_at i9wsX11_index_2 0 rfl) rfl (gin_c (mem_at i9wsX11_index_2 1 rfl) rfl gin_n)))))))))))))))))))))))) (goodIn_app (gin_c (mem_at i9wsX11_index_2 2 rfl) rfl (gin_c (mem_at i9wsX11_index_2 3 rfl) rfl (gin_c (mem_at i9wsX11_index_2 4 rfl) rfl (gin_c (mem_at i9wsX11_index_2 5 rfl) rfl (gin_c (mem_at i9wsX11_index_2 6 rfl) rfl (gin_c (mem_at i9wsX11_index_2 7 rfl) rfl (gin_c (mem_at i9wsX11_index_2 8 rfl) rfl (gin_c (mem_at i9wsX11_index_2 9 rfl) rfl (gin_c (mem_at i9wsX11_index_2 10 rfl) rfl (gin_c (mem_at i9wsX11_index_2 11 rfl) rfl (gin_c (mem_at i9wsX11_index_2 12 rfl) rfl (gin_c (mem_at i9wsX11_index_2 13 rfl) rfl (gin_c (mem_at i9wsX11_index_2 14 rfl) rfl (gin_c (mem_at i9wsX11_index_2 15 rfl) rfl (gin_c (mem_at i9wsX11_index_2 16 rfl) rfl (gin_c (mem_at i9wsX11_index_2 17 rfl) rfl (gin_c (mem_at i9wsX11_index_2 18 rfl) rfl (gin_c (mem_at i9wsX11_index_2 19 rfl) rfl (gin_c (mem_at i9wsX11_index_2 20 rfl) rfl (gin_c (mem_at i9wsX11_index_2 21 rfl) rfl (gin_c (mem_at i9wsX11_index_2 22 rfl) rfl (gin_c (mem_at i9wsX11_index_2 23 rfl) rfl (gin_c (mem_at i9wsX11_index_3 0 rfl) rfl (gin_c (mem_at i9wsX11_index_3 1 rfl) rfl gin_n)))))))))))))))))))))))) (gin_c (mem_at i9wsX11_index_3 2 rfl) rfl (gin_c (mem_at i9wsX11_index_3 3 rfl) rfl (gin_c (mem_at i9wsX11_index_3 4 rfl) rfl (gin_c (mem_at i9wsX11_index_3 5 rfl) rfl gin_n)))))) (goodIn_sub i9wsX11_index_4 g9_3)) (goodIn_sub i9wsX11_index_7 g9_2)) (goodIn_sub i9wsX11_index_8 g9_1)) (goodIn_sub i9wsX11_index_9 g9_0)))
set_option maxRecDepth 20000 in
theorem gX11_index_X10_makeIndex : GoodIn wsX11_index (wsV RX11 93 RX10 yX10_makeIndex wsX10_makeIndex) := goodIn_app (gin_c (mem_at i9wsX11_index_0 21 rfl) rfl (gin_c (mem_at i9wsX11_index_0 22 rfl) rfl (gin_c (mem_at i9wsX11_index_0 23 rfl) rfl (gin_c (mem_at i9wsX11_index_1 0 rfl) rfl gin_n)))) ggX11_index_X10_makeIndex
set_option maxHeartbeats 4000000 in
set_option maxRecDepth 100000 in
theorem T_X11_index (l : Launch) (hl : l.stackTraces = false) (D : va_G) (cA : Nat → ClassId) {l0 : Option Nat} {l1 : Int32} {l2 : Int32} {x : HS} {Q : Int32 → HS → Prop} {X : String → HS → Prop} (h : w_X11_index l0 l1 l2 x Q X) : YI l yX11_index wsX11_index 7 112 D cA [.q l0, .i l1, .i l2] x Q X := by
  refine YI.of (cc := cX11_index) (maxL := 4) (ret := (some .int)) hl (by decide) rfl rfl (fun g B fr => ?_)
  have o := B.o
  have hb := B.hb
  have hts := B.hts
  have hown : g.s.vm.findClass RX11 = some g.m.cls := B.hown
  have in10 : ∀ w ∈ u_ws RX10 TX10 6, w ∈ wsX11_index := fun w h => (List.mem_cons_of_mem _ (List.mem_append_left _ (List.mem_append_left _ (List.mem_append_left _ (List.mem_append_left _ (List.mem_append_left _ (List.mem_append_left _ (List.mem_append_left _ (List.mem_append_right _ h)))))))))
  unfold w_X11_index at h
  show KW g 4 0 [(0, .q l0), (1, .i l1), (2, .i l2)] [] x
  refine k_aload_n o hb dX11_index_0 rfl 0 rfl ?_
  refine k_iload_n o hb dX11_index_1 rfl 1 rfl ?_
  refine k_run_q o (fun _ _ q => q) (k_runV (ci := 11) (rc := (RX11, TX11, 12)) o hb B.hml hown hts rfl (by decide) (T_X11_tableOf g.l o.hl g.D g.cA h.2) (cwV 1 hts gX11_index_X11_tableOf rfl rfl rfl (by decide +kernel) ⟨yle B.hR1 rfl, yle B.hR2 rfl⟩) h.1 rfl rfl (Nat.le_of_ble_eq_true rfl) dX11_index_2) (fun v2 x1 h => ?_)
  refine k_astore_n o hb dX11_index_5 rfl rfl ?_
  refine k_iload_n o hb dX11_index_6 rfl 3 rfl ?_
  refine k_iconst (v := 0) o hb dX11_index_7 (by decide) ?_
  refine k_aload_n o hb dX11_index_8 rfl 0 rfl ?_
  refine k_getI (C := RX10) (T := TX10) (N := 6) o hb hts in10 hown rfl (by decide) 1 (by decide) rfl (hts (.fieldLink RX11 88 "FactKeeper$Table" "columns" "I") (by decide +kernel)) (fun _ h9 => h9) dX11_index_9 h (fun v3 h => ?_)
  refine k_iconst (v := 1) o hb dX11_index_12 (by decide) ?_
  refine k_isub o hb dX11_index_13 ?_
  refine k_run_v o (fun _ _ q => q) (k_runS o hb B.hml hown hts (T_X11_requireRange g.l o.hl g.D g.cA h) (va_cwS 3 hts gX11_index_X11_requireRange rfl rfl rfl (by decide +kernel) ⟨yle B.hR1 rfl, yle B.hR2 rfl⟩) rfl rfl (Nat.le_of_ble_eq_true rfl) dX11_index_14) (fun x4 h => ?_)
  refine k_aload_n o hb dX11_index_17 rfl 0 rfl ?_
  refine k_iload_n o hb dX11_index_18 rfl 3 rfl ?_
  refine k_run_i o (fun _ _ q => q) (k_runV (ci := 10) (rc := (RX10, TX10, 6)) o hb B.hml hown hts rfl (by decide) (T_X10_makeIndex g.l o.hl g.D g.cA h.2) (cwV 1 hts gX11_index_X10_makeIndex rfl rfl rfl (by decide +kernel) ⟨yle B.hR1 rfl, yle B.hR2 rfl⟩) h.1 rfl rfl (Nat.le_of_ble_eq_true rfl) dX11_index_19) (fun v7 x6 h => ?_)
  refine wJoin_elim (M := fun K => ∀ (v10 : Int32) (x9 : HS), K v10 x9 → KW g 4 30 [] [.i v10] x9) h ?_ (fun j8 hj8 h => ?_)
  · skip
    intro v10 x9 h
    exact k_iret o hb B.hr fr dX11_index_30 h
  · skip
    refine k_if_eq (tgt := 29) o hb dX11_index_22 (by decide) h (fun h => ?_) (fun h => ?_)
    · skip
      refine k_iconst (v := 0) o hb dX11_index_29 (by decide) ?_
      exact KW.sub [] rfl (hj8 0 x6 h)
    · skip
      refine k_iconst (v := 1) o hb dX11_index_25 (by decide) ?_
      refine k_goto (tgt := 30) o hb dX11_index_26 (by decide) ?_
      exact KW.sub [] rfl (hj8 1 x6 h)
theorem dX11_key_0 : decode cX11_key 0 = .ok (.aload_n 0, 1) := by decide +kernel
theorem dX11_key_1 : decode cX11_key 1 = .ok (.iload_n 1, 1) := by decide +kernel
theorem dX11_key_2 : decode cX11_key 2 = .ok (.invokevirtual 84, 3) := by decide +kernel
theorem dX11_key_5 : decode cX11_key 5 = .ok (.astore_n 3, 1) := by decide +kernel
theorem dX11_key_6 : decode cX11_key 6 = .ok (.iload_n 2, 1) := by decide +kernel
theorem dX11_key_7 : decode cX11_key 7 = .ok (.iconst 1, 1) := by decide +kernel
theorem dX11_key_8 : decode cX11_key 8 = .ok (.aload_n 3, 1) := by decide +kernel
theorem dX11_key_9 : decode cX11_key 9 = .ok (.invokevirtual 97, 3) := by decide +kernel
theorem dX11_key_12 : decode cX11_key 12 = .ok (.invokestatic 71, 3) := by decide +kernel
theorem dX11_key_15 : decode cX11_key 15 = .ok (.aload_n 3, 1) := by decide +kernel
theorem dX11_key_16 : decode cX11_key 16 = .ok (.iload_n 2, 1) := by decide +kernel
theorem dX11_key_17 : decode cX11_key 17 = .ok (.invokevirtual 101, 3) := by decide +kernel
theorem dX11_key_20 : decode cX11_key 20 = .ok (.ifCond .eq 13, 3) := by decide +kernel
theorem dX11_key_23 : decode cX11_key 23 = .ok (.new 79, 3) := by decide +kernel
theorem dX11_key_26 : decode cX11_key 26 = .ok (.dup, 1) := by decide +kernel
theorem dX11_key_27 : decode cX11_key 27 = .ok (.ldc 104, 2) := by decide +kernel
theorem dX11_key_29 : decode cX11_key 29 = .ok (.invokespecial 83, 3) := by decide +kernel
theorem dX11_key_32 : decode cX11_key 32 = .ok (.athrow, 1) := by decide +kernel
theorem dX11_key_33 : decode cX11_key 33 = .ok (.aload_n 3, 1) := by decide +kernel
theorem dX11_key_34 : decode cX11_key 34 = .ok (.iload_n 2, 1) := by decide +kernel
theorem dX11_key_35 : decode cX11_key 35 = .ok (.invokevirtual 106, 3) := by decide +kernel
theorem dX11_key_38 : decode cX11_key 38 = .ok (.ifCond .eq 5, 3) := by decide +kernel
theorem dX11_key_41 : decode cX11_key 41 = .ok (.iconst 0, 1) := by decide +kernel
theorem dX11_key_42 : decode cX11_key 42 = .ok (.ireturn, 1) := by decide +kernel
theorem dX11_key_43 : decode cX11_key 43 = .ok (.aload_n 3, 1) := by decide +kernel
theorem dX11_key_44 : decode cX11_key 44 = .ok (.iload_n 2, 1) := by decide +kernel
theorem dX11_key_45 : decode cX11_key 45 = .ok (.invokevirtual 109, 3) := by decide +kernel
theorem dX11_key_48 : decode cX11_key 48 = .ok (.ifCond .ne 13, 3) := by decide +kernel
theorem dX11_key_51 : decode cX11_key 51 = .ok (.new 60, 3) := by decide +kernel
theorem dX11_key_54 : decode cX11_key 54 = .ok (.dup, 1) := by decide +kernel
theorem dX11_key_55 : decode cX11_key 55 = .ok (.ldc 112, 2) := by decide +kernel
theorem dX11_key_57 : decode cX11_key 57 = .ok (.invokespecial 64, 3) := by decide +kernel
theorem dX11_key_60 : decode cX11_key 60 = .ok (.athrow, 1) := by decide +kernel
theorem dX11_key_61 : decode cX11_key 61 = .ok (.iconst 1, 1) := by decide +kernel
theorem dX11_key_62 : decode cX11_key 62 = .ok (.ireturn, 1) := by decide +kernel
theorem i9wsX11_key_0 : ∀ w ∈ wsX11_key_r1, w ∈ wsX11_key := fun _ h => (List.mem_cons_of_mem _ (List.mem_append_left _ (List.mem_append_left _ (List.mem_append_left _ (List.mem_append_left _ (List.mem_append_left _ (List.mem_append_left _ (List.mem_append_left _ (List.mem_append_left _ (List.mem_append_left _ (List.mem_append_left _ h)))))))))))
theorem i9wsX11_key_3 : ∀ w ∈ wsX110, w ∈ wsX11_key := fun _ h => (List.mem_cons_of_mem _ (List.mem_append_left _ (List.mem_append_left _ (List.mem_append_left _ (List.mem_append_left _ (List.mem_append_left _ (List.mem_append_left _ (List.mem_append_left _ (List.mem_append_left _ (List.mem_append_right _ h))))))))))
theorem i9wsX11_key_4 : ∀ w ∈ wsX90, w ∈ wsX11_key := fun _ h => (List.mem_cons_of_mem _ (List.mem_append_left _ (List.mem_append_left _ (List.mem_append_left _ (List.mem_append_left _ (List.mem_append_left _ (List.mem_append_left _ (List.mem_append_left _ (List.mem_append_right _ h)))))))))
theorem i9wsX11_key_10 : ∀ w ∈ ((tn_at RX11 184 "java/util/NoSuchElementException").filter goodWord), w ∈ wsX11_key := fun _ h => (List.mem_cons_of_mem _ (List.mem_append_left _ (List.mem_append_right _ h)))
set_option maxRecDepth 20000 in
theorem ggX11_key_X11_tableOf : GoodIn wsX11_key wsX11_tableOf := (gin_c (mem_at i9wsX11_key_0 8 rfl) rfl (goodIn_app (goodIn_app (goodIn_app (gin_c (mem_at i9wsX11_key_0 9 rfl) rfl (gin_c (mem_at i9wsX11_key_0 10 rfl) rfl (gin_c (mem_at i9wsX11_key_0 11 rfl) rfl (gin_c (mem_at i9wsX11_key_0 12 rfl) rfl (gin_c (mem_at i9wsX11_key_0 13 rfl) rfl (gin_c (mem_at i9wsX11_key_0 14 rfl) rfl (gin_c (mem_at i9wsX11_key_0 15 rfl) rfl (gin_c (mem_at i9wsX11_key_0 16 rfl) rfl (gin_c (mem_at i9wsX11_key_0 17 rfl) rfl (gin_c (mem_at i9wsX11_key_0 18 rfl) rfl gin_n)))))))))) (goodIn_sub i9wsX11_key_3 g9_13)) (goodIn_sub i9wsX11_key_4 g9_5)) (goodIn_sub i9wsX11_key_10 g9_15)))
set_option maxRecDepth 20000 in
theorem gX11_key_X11_tableOf : GoodIn wsX11_key (wsV RX11 84 RX11 yX11_tableOf wsX11_tableOf) := goodIn_app (gin_c (mem_at i9wsX11_key_0 4 rfl) rfl (gin_c (mem_at i9wsX11_key_0 5 rfl) rfl (gin_c (mem_at i9wsX11_key_0 6 rfl) rfl (gin_c (mem_at i9wsX11_key_0 7 rfl) rfl gin_n)))) ggX11_key_X11_tableOf
theorem i9wsX11_key_1 : ∀ w ∈ wsX11_key_r2, w ∈ wsX11_key := fun _ h => (List.mem_cons_of_mem _ (List.mem_append_left _ (List.mem_append_left _ (List.mem_append_left _ (List.mem_append_left _ (List.mem_append_left _ (List.mem_append_left _ (List.mem_append_left _ (List.mem_append_left _ (List.mem_append_left _ (List.mem_append_right _ (List.mem_append_left _ h))))))))))))
theorem i9wsX11_key_5 : ∀ w ∈ wsX100, w ∈ wsX11_key := fun _ h => (List.mem_cons_of_mem _ (List.mem_append_left _ (List.mem_append_left _ (List.mem_append_left _ (List.mem_append_left _ (List.mem_append_left _ (List.mem_append_left _ (List.mem_append_right _ h))))))))
set_option maxRecDepth 20000 in
theorem ggX11_key_X10_allColumns : GoodIn wsX11_key wsX10_allColumns := (gin_c (mem_at i9wsX11_key_0 23 rfl) rfl (goodIn_app (gin_c (mem_at i9wsX11_key_1 0 rfl) rfl gin_n) (goodIn_sub i9wsX11_key_5 g9_3)))
set_option maxRecDepth 20000 in
theorem gX11_key_X10_allColumns : GoodIn wsX11_key (wsV RX11 97 RX10 yX10_allColumns wsX10_allColumns) := goodIn_app (gin_c (mem_at i9wsX11_key_0 19 rfl) rfl (gin_c (mem_at i9wsX11_key_0 20 rfl) rfl (gin_c (mem_at i9wsX11_key_0 21 rfl) rfl (gin_c (mem_at i9wsX11_key_0 22 rfl) rfl gin_n)))) ggX11_key_X10_allColumns
theorem i9wsX11_key_11 : ∀ w ∈ ((vx_atS RX11 340 "java/lang/IllegalArgumentException" ["java/lang/RuntimeException", "java/lang/Exception"]).filter goodWord), w ∈ wsX11_key := fun _ h => (List.mem_cons_of_mem _ (List.mem_append_right _ h))
set_option maxRecDepth 20000 in
theorem ggX11_key_X11_requireRange : GoodIn wsX11_key wsX11_requireRange := (gin_c (mem_at i9wsX11_key_1 3 rfl) rfl (goodIn_app (gin_c (mem_at i9wsX11_key_1 4 rfl) rfl (gin_c (mem_at i9wsX11_key_1 5 rfl) rfl gin_n)) (goodIn_sub i9wsX11_key_11 g9_14)))
set_option maxRecDepth 20000 in
theorem gX11_key_X11_requireRange : GoodIn wsX11_key (va_wsS RX11 71 yX11_requireRange wsX11_requireRange) := goodIn_app (gin_c (mem_at i9wsX11_key_1 1 rfl) rfl (gin_c (mem_at i9wsX11_key_1 2 rfl) rfl (gin_c (mem_at i9wsX11_key_0 7 rfl) rfl gin_n))) ggX11_key_X11_requireRange
theorem i9wsX11_key_2 : ∀ w ∈ wsX11_key_r3, w ∈ wsX11_key := fun _ h => (List.mem_cons_of_mem _ (List.mem_append_left _ (List.mem_append_left _ (List.mem_append_left _ (List.mem_append_left _ (List.mem_append_left _ (List.mem_append_left _ (List.mem_append_left _ (List.mem_append_left _ (List.mem_append_left _ (List.mem_append_right _ (List.mem_append_right _ h))))))))))))
theorem i9wsX11_key_6 : ∀ w ∈ wsX00, w ∈ wsX11_key := fun _ h => (List.mem_cons_of_mem _ (List.mem_append_left _ (List.mem_append_left _ (List.mem_append_left _ (List.mem_append_left _ (List.mem_append_left _ (List.mem_append_right _ h)))))))
theorem i9wsX11_key_7 : ∀ w ∈ wsX10, w ∈ wsX11_key := fun _ h => (List.mem_cons_of_mem _ (List.mem_append_left _ (List.mem_append_left _ (List.mem_append_left _ (List.mem_append_left _ (List.mem_append_right _ h))))))
set_option maxRecDepth 20000 in
theorem ggX11_key_X10_hasTwins : GoodIn wsX11_key wsX10_hasTwins := (gin_c (mem_at i9wsX11_key_1 9 rfl) rfl (goodIn_app (goodIn_app (goodIn_app (gin_c (mem_at i9wsX11_key_1 10 rfl) rfl (gin_c (mem_at i9wsX11_key_1 11 rfl) rfl (gin_c (mem_at i9wsX11_key_1 12 rfl) rfl (gin_c (mem_at i9wsX11_key_1 13 rfl) rfl (gin_c (mem_at i9wsX11_key_1 14 rfl) rfl (gin_c (mem_at i9wsX11_key_1 15 rfl) rfl (gin_c (mem_at i9wsX11_key_1 16 rfl) rfl (gin_c (mem_at i9wsX11_key_1 17 rfl) rfl (gin_c (mem_at i9wsX11_key_1 18 rfl) rfl (gin_c (mem_at i9wsX11_key_1 19 rfl) rfl (gin_c (mem_at i9wsX11_key_1 20 rfl) rfl (gin_c (mem_at i9wsX11_key_1 21 rfl) rfl (gin_c (mem_at i9wsX11_key_0 22 rfl) rfl (gin_c (mem_at i9wsX11_key_1 22 rfl) rfl (gin_c (mem_at i9wsX11_key_1 23 rfl) rfl (gin_c (mem_at i9wsX11_key_2 0 rfl) rfl (gin_c (mem_at i9wsX11_key_2 1 rfl) rfl (gin_c (mem_at i9wsX11_key_2 2 rfl) rfl (gin_c (mem_at i9wsX11_key_2 3 rfl) rfl (gin_c (mem_at i9wsX11_key_2 4 rfl) rfl (gin_c (mem_at i9wsX11_key_0 7 rfl) rfl (gin_c (mem_at i9wsX11_key_2 5 rfl) rfl gin_n)))))))))))))))))))))) (goodIn_sub i9wsX11_key_5 g9_3)) (goodIn_sub i9wsX11_key_6 g9_1)) (goodIn_sub i9wsX11_key_7 g9_0)))
set_option maxRecDepth 20000 in
theorem gX11_key_X10_hasTwins : GoodIn wsX11_key (wsV RX11 101 RX10 yX10_hasTwins wsX10_hasTwins) := goodIn_app (gin_c (mem_at i9wsX11_key_1 6 rfl) rfl (gin_c (mem_at i9wsX11_key_1 7 rfl) rfl (gin_c (mem_at i9wsX11_key_1 8 rfl) rfl (gin_c (mem_at i9wsX11_key_0 22 rfl) rfl gin_n)))) ggX11_key_X10_hasTwins
set_option maxRecDepth 20000 in
theorem ggX11_key_X10_hasKey : GoodIn wsX11_key wsX10_hasKey := (gin_c (mem_at i9wsX11_key_2 9 rfl) rfl (goodIn_app (gin_c (mem_at i9wsX11_key_2 10 rfl) rfl (gin_c (mem_at i9wsX11_key_2 11 rfl) rfl gin_n)) (goodIn_sub i9wsX11_key_5 g9_3)))
set_option maxRecDepth 20000 in
theorem gX11_key_X10_hasKey : GoodIn wsX11_key (wsV RX11 106 RX10 yX10_hasKey wsX10_hasKey) := goodIn_app (gin_c (mem_at i9wsX11_key_2 6 rfl) rfl (gin_c (mem_at i9wsX11_key_2 7 rfl) rfl (gin_c (mem_at i9wsX11_key_2 8 rfl) rfl (gin_c (mem_at i9wsX11_key_0 22 rfl) rfl gin_n)))) ggX11_key_X10_hasKey
set_option maxRecDepth 20000 in
theorem ggX11_key_X10_makeKey : GoodIn wsX11_key wsX10_makeKey := (gin_c (mem_at i9wsX11_key_2 15 rfl) rfl (goodIn_app (gin_c (mem_at i9wsX11_key_2 10 rfl) rfl (gin_c (mem_at i9wsX11_key_2 11 rfl) rfl gin_n)) (goodIn_sub i9wsX11_key_5 g9_3)))
set_option maxRecDepth 20000 in
theorem gX11_key_X10_makeKey : GoodIn wsX11_key (wsV RX11 109 RX10 yX10_makeKey wsX10_makeKey) := goodIn_app (gin_c (mem_at i9wsX11_key_2 12 rfl) rfl (gin_c (mem_at i9wsX11_key_2 13 rfl) rfl (gin_c (mem_at i9wsX11_key_2 14 rfl) rfl (gin_c (mem_at i9wsX11_key_0 22 rfl) rfl gin_n)))) ggX11_key_X10_makeKey
set_option maxHeartbeats 4000000 in
set_option maxRecDepth 100000 in
theorem T_X11_key (l : Launch) (hl : l.stackTraces = false) (D : va_G) (cA : Nat → ClassId) {l0 : Option Nat} {l1 : Int32} {l2 : Int32} {x : HS} {Q : Int32 → HS → Prop} {X : String → HS → Prop} (h : w_X11_key l0 l1 l2 x Q X) : YI l yX11_key wsX11_key 7 112 D cA [.q l0, .i l1, .i l2] x Q X := by
  refine YI.of (cc := cX11_key) (maxL := 4) (ret := (some .int)) hl (by decide) rfl rfl (fun g B fr => ?_)
  have o := B.o
  have hb := B.hb
  have hts := B.hts
  have hown : g.s.vm.findClass RX11 = some g.m.cls := B.hown
  unfold w_X11_key at h
  show KW g 4 0 [(0, .q l0), (1, .i l1), (2, .i l2)] [] x
  refine k_aload_n o hb dX11_key_0 rfl 0 rfl ?_
  refine k_iload_n o hb dX11_key_1 rfl 1 rfl ?_
  refine k_run_q o (fun _ _ q => q) (k_runV (ci := 11) (rc := (RX11, TX11, 12)) o hb B.hml hown hts rfl (by decide) (T_X11_tableOf g.l o.hl g.D g.cA h.2) (cwV 1 hts gX11_key_X11_tableOf rfl rfl rfl (by decide +kernel) ⟨yle B.hR1 rfl, yle B.hR2 rfl⟩) h.1 rfl rfl (Nat.le_of_ble_eq_true rfl) dX11_key_2) (fun v2 x1 h => ?_)
  refine k_astore_n o hb dX11_key_5 rfl rfl ?_
  refine k_iload_n o hb dX11_key_6 rfl 3 rfl ?_
  refine k_iconst (v := 1) o hb dX11_key_7 (by decide) ?_
  refine k_aload_n o hb dX11_key_8 rfl 0 rfl ?_
  refine k_run_i o (fun _ _ q => q) (k_runV (ci := 10) (rc := (RX10, TX10, 6)) o hb B.hml hown hts rfl (by decide) (T_X10_allColumns g.l o.hl g.D g.cA h.2) (cwV 0 hts gX11_key_X10_allColumns rfl rfl rfl (by decide +kernel) ⟨yle B.hR1 rfl, yle B.hR2 rfl⟩) h.1 rfl rfl (Nat.le_of_ble_eq_true rfl) dX11_key_9) (fun v4 x3 h => ?_)
  refine k_run_v o (fun _ _ q => q) (k_runS o hb B.hml hown hts (T_X11_requireRange g.l o.hl g.D g.cA h) (va_cwS 3 hts gX11_key_X11_requireRange rfl rfl rfl (by decide +kernel) ⟨yle B.hR1 rfl, yle B.hR2 rfl⟩) rfl rfl (Nat.le_of_ble_eq_true rfl) dX11_key_12) (fun x5 h => ?_)
  refine k_aload_n o hb dX11_key_15 rfl 0 rfl ?_
  refine k_iload_n o hb dX11_key_16 rfl 3 rfl ?_
  refine k_run_i o (fun _ _ q => q) (k_runV (ci := 10) (rc := (RX10, TX10, 6)) o hb B.hml hown hts rfl (by decide) (T_X10_hasTwins g.l o.hl g.D g.cA h.2) (cwV 1 hts gX11_key_X10_hasTwins rfl rfl rfl (by decide +kernel) ⟨yle B.hR1 rfl, yle B.hR2 rfl⟩) h.1 rfl rfl (Nat.le_of_ble_eq_true rfl) dX11_key_17) (fun v8 x7 h => ?_)
  refine k_if_eq (tgt := 33) o hb dX11_key_20 (by decide) h (fun h => ?_) (fun h => ?_)
  · skip
    refine k_aload_n o hb dX11_key_33 rfl 0 rfl ?_
    refine k_iload_n o hb dX11_key_34 rfl 3 rfl ?_
    refine k_run_i o (fun _ _ q => q) (k_runV (ci := 10) (rc := (RX10, TX10, 6)) o hb B.hml hown hts rfl (by decide) (T_X10_hasKey g.l o.hl g.D g.cA h.2) (cwV 1 hts gX11_key_X10_hasKey rfl rfl rfl (by decide +kernel) ⟨yle B.hR1 rfl, yle B.hR2 rfl⟩) h.1 rfl rfl (Nat.le_of_ble_eq_true rfl) dX11_key_35) (fun v10 x9 h => ?_)
    refine k_if_eq (tgt := 43) o hb dX11_key_38 (by decide) h (fun h => ?_) (fun h => ?_)
    · skip
      refine k_aload_n o hb dX11_key_43 rfl 0 rfl ?_
      refine k_iload_n o hb dX11_key_44 rfl 3 rfl ?_
      refine k_run_i o (fun _ _ q => q) (k_runV (ci := 10) (rc := (RX10, TX10, 6)) o hb B.hml hown hts rfl (by decide) (T_X10_makeKey g.l o.hl g.D g.cA h.2) (cwV 1 hts gX11_key_X10_makeKey rfl rfl rfl (by decide +kernel) ⟨yle B.hR1 rfl, yle B.hR2 rfl⟩) h.1 rfl rfl (Nat.le_of_ble_eq_true rfl) dX11_key_45) (fun v12 x11 h => ?_)
      refine k_if_ne (tgt := 61) o hb dX11_key_48 (by decide) h (fun h => ?_) (fun h => ?_)
      · skip
        refine k_throw (E := eIB) o (fun H locs cells slots mc ms ls XC hls hS hc1 hs1 hc2 hs2 hx9 => ?_) h
        obtain ⟨sa, hsa⟩ := o.hZ.2.2.2.2.2.2.1.2.2.2.2.2.1
        exact vx_throwS (cls := eIB) (names := eSup) (A := g.A) o.hx hb o.hl hown (by decide +kernel) (by decide +kernel) (hts (.classLink RX11 60 "java/lang/IndexOutOfBoundsException") (by decide +kernel)) (hts (.initialized "java/lang/IndexOutOfBoundsException") (by decide +kernel)) hsa (tx_at hts (fun w h => (List.mem_cons_of_mem _ (List.mem_append_left _ (List.mem_append_left _ (List.mem_append_right _ h))))) (by decide +kernel) o.hZ.2.2.2.1.2.2.2.1 o.hZ.2.2.2.2.2.2.2) (by decide +kernel) o.hZ.1 o.hZ.2.1 hS (hls.trans B.hml.symm) dX11_key_51 dX11_key_54 dX11_key_55 dX11_key_57 dX11_key_60 (fun x h => (o.htb x h).elim) (ylt B.hR1 rfl) (by rw [lq_cats]; exact yle B.hR2 rfl) hc1 hs1 o.hlk (fun t ha h1 h2 => hx9 t ha h1 h2) hS.2.2 hc2 hs2
      · skip
        refine k_iconst (v := 1) o hb dX11_key_61 (by decide) ?_
        exact k_iret o hb B.hr fr dX11_key_62 h
    · skip
      refine k_iconst (v := 0) o hb dX11_key_41 (by decide) ?_
      exact k_iret o hb B.hr fr dX11_key_42 h
  · skip
    refine k_throw (E := eIS) o (fun H locs cells slots mc ms ls XC hls hS hc1 hs1 hc2 hs2 hx9 => ?_) h
    obtain ⟨sa, hsa⟩ := o.hZ.2.2.2.2.2.2.1.2.2.2.2.1
    exact vx_throwS (cls := eIS) (names := eSup) (A := g.A) o.hx hb o.hl hown (by decide +kernel) (by decide +kernel) (hts (.classLink RX11 79 "java/lang/IllegalStateException") (by decide +kernel)) (hts (.initialized "java/lang/IllegalStateException") (by decide +kernel)) hsa (tx_at hts (fun w h => (List.mem_cons_of_mem _ (List.mem_append_left _ (List.mem_append_left _ (List.mem_append_left _ (List.mem_append_right _ h)))))) (by decide +kernel) o.hZ.2.2.2.1.2.2.1 o.hZ.2.2.2.2.2.2.2) (by decide +kernel) o.hZ.1 o.hZ.2.1 hS (hls.trans B.hml.symm) dX11_key_23 dX11_key_26 dX11_key_27 dX11_key_29 dX11_key_32 (fun x h => (o.htb x h).elim) (ylt B.hR1 rfl) (by rw [lq_cats]; exact yle B.hR2 rfl) hc1 hs1 o.hlk (fun t ha h1 h2 => hx9 t ha h1 h2) hS.2.2 hc2 hs2
theorem dX11_add_0 : decode cX11_add 0 = .ok (.iload_n 2, 1) := by decide +kernel
theorem dX11_add_1 : decode cX11_add 1 = .ok (.iconst 0, 1) := by decide +kernel
theorem dX11_add_2 : decode cX11_add 2 = .ok (.iconst 1, 1) := by decide +kernel
theorem dX11_add_3 : decode cX11_add 3 = .ok (.invokestatic 71, 3) := by decide +kernel
theorem dX11_add_6 : decode cX11_add 6 = .ok (.aload_n 0, 1) := by decide +kernel
theorem dX11_add_7 : decode cX11_add 7 = .ok (.iload_n 1, 1) := by decide +kernel
theorem dX11_add_8 : decode cX11_add 8 = .ok (.invokevirtual 84, 3) := by decide +kernel
theorem dX11_add_11 : decode cX11_add 11 = .ok (.astore_n 3, 1) := by decide +kernel
theorem dX11_add_12 : decode cX11_add 12 = .ok (.aload_n 3, 1) := by decide +kernel
theorem dX11_add_13 : decode cX11_add 13 = .ok (.aload_n 0, 1) := by decide +kernel
theorem dX11_add_14 : decode cX11_add 14 = .ok (.getfield 13, 3) := by decide +kernel
theorem dX11_add_17 : decode cX11_add 17 = .ok (.invokevirtual 114, 3) := by decide +kernel
theorem dX11_add_20 : decode cX11_add 20 = .ok (.ifCond .eq 13, 3) := by decide +kernel
theorem dX11_add_23 : decode cX11_add 23 = .ok (.new 118, 3) := by decide +kernel
theorem dX11_add_26 : decode cX11_add 26 = .ok (.dup, 1) := by decide +kernel
theorem dX11_add_27 : decode cX11_add 27 = .ok (.ldc 120, 2) := by decide +kernel
theorem dX11_add_29 : decode cX11_add 29 = .ok (.invokespecial 122, 3) := by decide +kernel
theorem dX11_add_32 : decode cX11_add 32 = .ok (.athrow, 1) := by decide +kernel
theorem dX11_add_33 : decode cX11_add 33 = .ok (.aload_n 0, 1) := by decide +kernel
theorem dX11_add_34 : decode cX11_add 34 = .ok (.getfield 20, 3) := by decide +kernel
theorem dX11_add_37 : decode cX11_add 37 = .ok (.aload_n 3, 1) := by decide +kernel
theorem dX11_add_38 : decode cX11_add 38 = .ok (.aload_n 0, 1) := by decide +kernel
theorem dX11_add_39 : decode cX11_add 39 = .ok (.getfield 13, 3) := by decide +kernel
theorem dX11_add_42 : decode cX11_add 42 = .ok (.invokevirtual 123, 3) := by decide +kernel
theorem dX11_add_45 : decode cX11_add 45 = .ok (.astore 4, 2) := by decide +kernel
theorem dX11_add_47 : decode cX11_add 47 = .ok (.aload 4, 2) := by decide +kernel
theorem dX11_add_49 : decode cX11_add 49 = .ok (.ifnonnull 13, 3) := by decide +kernel
theorem dX11_add_52 : decode cX11_add 52 = .ok (.new 79, 3) := by decide +kernel
theorem dX11_add_55 : decode cX11_add 55 = .ok (.dup, 1) := by decide +kernel
theorem dX11_add_56 : decode cX11_add 56 = .ok (.ldc 127, 2) := by decide +kernel
theorem dX11_add_58 : decode cX11_add 58 = .ok (.invokespecial 83, 3) := by decide +kernel
theorem dX11_add_61 : decode cX11_add 61 = .ok (.athrow, 1) := by decide +kernel
theorem dX11_add_62 : decode cX11_add 62 = .ok (.aload_n 3, 1) := by decide +kernel
theorem dX11_add_63 : decode cX11_add 63 = .ok (.aload 4, 2) := by decide +kernel
theorem dX11_add_65 : decode cX11_add 65 = .ok (.iload_n 2, 1) := by decide +kernel
theorem dX11_add_66 : decode cX11_add 66 = .ok (.iconst 1, 1) := by decide +kernel
theorem dX11_add_67 : decode cX11_add 67 = .ok (.if_icmp .ne 7, 3) := by decide +kernel
theorem dX11_add_70 : decode cX11_add 70 = .ok (.iconst 1, 1) := by decide +kernel
theorem dX11_add_71 : decode cX11_add 71 = .ok (.goto 4, 3) := by decide +kernel
theorem dX11_add_74 : decode cX11_add 74 = .ok (.iconst 0, 1) := by decide +kernel
theorem dX11_add_75 : decode cX11_add 75 = .ok (.invokevirtual 129, 3) := by decide +kernel
theorem dX11_add_78 : decode cX11_add 78 = .ok (.aload 4, 2) := by decide +kernel
theorem dX11_add_80 : decode cX11_add 80 = .ok (.getfield 133, 3) := by decide +kernel
theorem dX11_add_83 : decode cX11_add 83 = .ok (.ireturn, 1) := by decide +kernel
theorem i9wsX11_add_0 : ∀ w ∈ wsX11_add_r1, w ∈ wsX11_add := fun _ h => (List.mem_cons_of_mem _ (List.mem_append_left _ (List.mem_append_left _ (List.mem_append_left _ (List.mem_append_left _ (List.mem_append_left _ (List.mem_append_left _ (List.mem_append_left _ (List.mem_append_left _ (List.mem_append_left _ (List.mem_append_left _ (List.mem_append_left _ (List.mem_append_left _ h)))))))))))))
theorem i9wsX11_add_15 : ∀ w ∈ ((vx_atS RX11 340 "java/lang/IllegalArgumentException" ["java/lang/RuntimeException", "java/lang/Exception"]).filter goodWord), w ∈ wsX11_add := fun _ h => (List.mem_cons_of_mem _ (List.mem_append_left _ (List.mem_append_right _ h)))
set_option maxRecDepth 20000 in
theorem ggX11_add_X11_requireRange : GoodIn wsX11_add wsX11_requireRange := (gin_c (mem_at i9wsX11_add_0 10 rfl) rfl (goodIn_app (gin_c (mem_at i9wsX11_add_0 11 rfl) rfl (gin_c (mem_at i9wsX11_add_0 12 rfl) rfl gin_n)) (goodIn_sub i9wsX11_add_15 g9_14)))
set_option maxRecDepth 20000 in
theorem gX11_add_X11_requireRange : GoodIn wsX11_add (va_wsS RX11 71 yX11_requireRange wsX11_requireRange) := goodIn_app (gin_c (mem_at i9wsX11_add_0 7 rfl) rfl (gin_c (mem_at i9wsX11_add_0 8 rfl) rfl (gin_c (mem_at i9wsX11_add_0 9 rfl) rfl gin_n))) ggX11_add_X11_requireRange
theorem i9wsX11_add_1 : ∀ w ∈ wsX11_add_r2, w ∈ wsX11_add := fun _ h => (List.mem_cons_of_mem _ (List.mem_append_left _ (List.mem_append_left _ (List.mem_append_left _ (List.mem_append_left _ (List.mem_append_left _ (List.mem_append_left _ (List.mem_append_left _ (List.mem_append_left _ (List.mem_append_left _ (List.mem_append_left _ (List.mem_append_left _ (List.mem_append_right _ (List.mem_append_left _ h))))))))))))))
theorem i9wsX11_add_6 : ∀ w ∈ wsX110, w ∈ wsX11_add := fun _ h => (List.mem_cons_of_mem _ (List.mem_append_left _ (List.mem_append_left _ (List.mem_append_left _ (List.mem_append_left _ (List.mem_append_left _ (List.mem_append_left _ (List.mem_append_left _ (List.mem_append_left _ (List.mem_append_left _ (List.mem_append_left _ (List.mem_append_right _ h))))))))))))
theorem i9wsX11_add_8 : ∀ w ∈ wsX90, w ∈ wsX11_add := fun _ h => (List.mem_cons_of_mem _ (List.mem_append_left _ (List.mem_append_left _ (List.mem_append_left _ (List.mem_append_left _ (List.mem_append_left _ (List.mem_append_left _ (List.mem_append_left _ (List.mem_append_left _ (List.mem_append_right _ h))))))))))
theorem i9wsX11_add_16 : ∀ w ∈ ((tn_at RX11 184 "java/util/NoSuchElementException").filter goodWord), w ∈ wsX11_add := fun _ h => (List.mem_cons_of_mem _ (List.mem_append_right _ h))
set_option maxRecDepth 20000 in
theorem ggX11_add_X11_tableOf : GoodIn wsX11_add wsX11_tableOf := (gin_c (mem_at i9wsX11_add_0 16 rfl) rfl (goodIn_app (goodIn_app (goodIn_app (gin_c (mem_at i9wsX11_add_0 17 rfl) rfl (gin_c (mem_at i9wsX11_add_0 18 rfl) rfl (gin_c (mem_at i9wsX11_add_0 5 rfl) rfl (gin_c (mem_at i9wsX11_add_0 19 rfl) rfl (gin_c (mem_at i9wsX11_add_0 20 rfl) rfl (gin_c (mem_at i9wsX11_add_0 21 rfl) rfl (gin_c (mem_at i9wsX11_add_0 22 rfl) rfl (gin_c (mem_at i9wsX11_add_0 23 rfl) rfl (gin_c (mem_at i9wsX11_add_1 0 rfl) rfl (gin_c (mem_at i9wsX11_add_1 1 rfl) rfl gin_n)))))))))) (goodIn_sub i9wsX11_add_6 g9_13)) (goodIn_sub i9wsX11_add_8 g9_5)) (goodIn_sub i9wsX11_add_16 g9_15)))
set_option maxRecDepth 20000 in
theorem gX11_add_X11_tableOf : GoodIn wsX11_add (wsV RX11 84 RX11 yX11_tableOf wsX11_tableOf) := goodIn_app (gin_c (mem_at i9wsX11_add_0 13 rfl) rfl (gin_c (mem_at i9wsX11_add_0 14 rfl) rfl (gin_c (mem_at i9wsX11_add_0 15 rfl) rfl (gin_c (mem_at i9wsX11_add_0 9 rfl) rfl gin_n)))) ggX11_add_X11_tableOf
theorem i9wsX11_add_2 : ∀ w ∈ wsX11_add_r3, w ∈ wsX11_add := fun _ h => (List.mem_cons_of_mem _ (List.mem_append_left _ (List.mem_append_left _ (List.mem_append_left _ (List.mem_append_left _ (List.mem_append_left _ (List.mem_append_left _ (List.mem_append_left _ (List.mem_append_left _ (List.mem_append_left _ (List.mem_append_left _ (List.mem_append_left _ (List.mem_append_right _ (List.mem_append_right _ (List.mem_append_left _ h)))))))))))))))
theorem i9wsX11_add_9 : ∀ w ∈ wsX100, w ∈ wsX11_add := fun _ h => (List.mem_cons_of_mem _ (List.mem_append_left _ (List.mem_append_left _ (List.mem_append_left _ (List.mem_append_left _ (List.mem_append_left _ (List.mem_append_left _ (List.mem_append_left _ (List.mem_append_right _ h)))))))))
theorem i9wsX11_add_10 : ∀ w ∈ wsX00, w ∈ wsX11_add := fun _ h => (List.mem_cons_of_mem _ (List.mem_append_left _ (List.mem_append_left _ (List.mem_append_left _ (List.mem_append_left _ (List.mem_append_left _ (List.mem_append_left _ (List.mem_append_right _ h))))))))
theorem i9wsX11_add_7 : ∀ w ∈ wsX10, w ∈ wsX11_add := fun _ h => (List.mem_cons_of_mem _ (List.mem_append_left _ (List.mem_append_left _ (List.mem_append_left _ (List.mem_append_left _ (List.mem_append_left _ (List.mem_append_left _ (List.mem_append_left _ (List.mem_append_left _ (List.mem_append_left _ (List.mem_append_right _ h)))))))))))
set_option maxRecDepth 20000 in
theorem ggX11_add_X10_breaksKey : GoodIn wsX11_add wsX10_breaksKey := (gin_c (mem_at i9wsX11_add_1 6 rfl) rfl (goodIn_app (goodIn_app (goodIn_app (gin_c (mem_at i9wsX11_add_1 7 rfl) rfl (gin_c (mem_at i9wsX11_add_1 8 rfl) rfl (gin_c (mem_at i9wsX11_add_1 9 rfl) rfl (gin_c (mem_at i9wsX11_add_1 10 rfl) rfl (gin_c (mem_at i9wsX11_add_1 11 rfl) rfl (gin_c (mem_at i9wsX11_add_1 12 rfl) rfl (gin_c (mem_at i9wsX11_add_1 5 rfl) rfl (gin_c (mem_at i9wsX11_add_1 13 rfl) rfl (gin_c (mem_at i9wsX11_add_1 14 rfl) rfl (gin_c (mem_at i9wsX11_add_1 15 rfl) rfl (gin_c (mem_at i9wsX11_add_1 16 rfl) rfl (gin_c (mem_at i9wsX11_add_1 17 rfl) rfl (gin_c (mem_at i9wsX11_add_1 18 rfl) rfl (gin_c (mem_at i9wsX11_add_1 19 rfl) rfl (gin_c (mem_at i9wsX11_add_1 20 rfl) rfl (gin_c (mem_at i9wsX11_add_1 21 rfl) rfl (gin_c (mem_at i9wsX11_add_1 22 rfl) rfl (gin_c (mem_at i9wsX11_add_1 23 rfl) rfl (gin_c (mem_at i9wsX11_add_2 0 rfl) rfl (gin_c (mem_at i9wsX11_add_2 1 rfl) rfl (gin_c (mem_at i9wsX11_add_2 2 rfl) rfl (gin_c (mem_at i9wsX11_add_0 9 rfl) rfl (gin_c (mem_at i9wsX11_add_2 3 rfl) rfl gin_n))))))))))))))))))))))) (goodIn_sub i9wsX11_add_9 g9_3)) (goodIn_sub i9wsX11_add_10 g9_1)) (goodIn_sub i9wsX11_add_7 g9_0)))
set_option maxRecDepth 20000 in
theorem gX11_add_X10_breaksKey : GoodIn wsX11_add (wsV RX11 114 RX10 yX10_breaksKey wsX10_breaksKey) := goodIn_app (gin_c (mem_at i9wsX11_add_1 2 rfl) rfl (gin_c (mem_at i9wsX11_add_1 3 rfl) rfl (gin_c (mem_at i9wsX11_add_1 4 rfl) rfl (gin_c (mem_at i9wsX11_add_1 5 rfl) rfl gin_n)))) ggX11_add_X10_breaksKey
theorem i9wsX11_add_3 : ∀ w ∈ wsX11_add_r4, w ∈ wsX11_add := fun _ h => (List.mem_cons_of_mem _ (List.mem_append_left _ (List.mem_append_left _ (List.mem_append_left _ (List.mem_append_left _ (List.mem_append_left _ (List.mem_append_left _ (List.mem_append_left _ (List.mem_append_left _ (List.mem_append_left _ (List.mem_append_left _ (List.mem_append_left _ (List.mem_append_right _ (List.mem_append_right _ (List.mem_append_right _ (List.mem_append_left _ h))))))))))))))))
theorem i9wsX11_add_11 : ∀ w ∈ wsX30, w ∈ wsX11_add := fun _ h => (List.mem_cons_of_mem _ (List.mem_append_left _ (List.mem_append_left _ (List.mem_append_left _ (List.mem_append_left _ (List.mem_append_left _ (List.mem_append_right _ h)))))))
set_option maxRecDepth 20000 in
theorem ggX11_add_X9_come : GoodIn wsX11_add wsX9_come := (gin_c (mem_at i9wsX11_add_2 7 rfl) rfl (goodIn_app (goodIn_app (goodIn_app (goodIn_app (goodIn_app (gin_c (mem_at i9wsX11_add_2 8 rfl) rfl (gin_c (mem_at i9wsX11_add_2 9 rfl) rfl (gin_c (mem_at i9wsX11_add_2 10 rfl) rfl (gin_c (mem_at i9wsX11_add_2 11 rfl) rfl (gin_c (mem_at i9wsX11_add_1 18 rfl) rfl (gin_c (mem_at i9wsX11_add_2 12 rfl) rfl (gin_c (mem_at i9wsX11_add_2 13 rfl) rfl (gin_c (mem_at i9wsX11_add_2 14 rfl) rfl (gin_c (mem_at i9wsX11_add_2 15 rfl) rfl (gin_c (mem_at i9wsX11_add_2 16 rfl) rfl (gin_c (mem_at i9wsX11_add_2 17 rfl) rfl (gin_c (mem_at i9wsX11_add_2 18 rfl) rfl (gin_c (mem_at i9wsX11_add_2 19 rfl) rfl (gin_c (mem_at i9wsX11_add_2 20 rfl) rfl (gin_c (mem_at i9wsX11_add_2 21 rfl) rfl (gin_c (mem_at i9wsX11_add_2 22 rfl) rfl (gin_c (mem_at i9wsX11_add_2 23 rfl) rfl (gin_c (mem_at i9wsX11_add_3 0 rfl) rfl (gin_c (mem_at i9wsX11_add_3 1 rfl) rfl (gin_c (mem_at i9wsX11_add_3 2 rfl) rfl (gin_c (mem_at i9wsX11_add_3 3 rfl) rfl (gin_c (mem_at i9wsX11_add_2 1 rfl) rfl (gin_c (mem_at i9wsX11_add_3 4 rfl) rfl (gin_c (mem_at i9wsX11_add_3 5 rfl) rfl gin_n)))))))))))))))))))))))) (gin_c (mem_at i9wsX11_add_3 6 rfl) rfl (gin_c (mem_at i9wsX11_add_3 7 rfl) rfl (gin_c (mem_at i9wsX11_add_3 8 rfl) rfl (gin_c (mem_at i9wsX11_add_3 9 rfl) rfl (gin_c (mem_at i9wsX11_add_3 10 rfl) rfl (gin_c (mem_at i9wsX11_add_3 11 rfl) rfl (gin_c (mem_at i9wsX11_add_3 12 rfl) rfl (gin_c (mem_at i9wsX11_add_3 13 rfl) rfl (gin_c (mem_at i9wsX11_add_3 14 rfl) rfl gin_n)))))))))) (goodIn_sub i9wsX11_add_8 g9_5)) (goodIn_sub i9wsX11_add_7 g9_0)) (goodIn_sub i9wsX11_add_9 g9_3)) (goodIn_sub i9wsX11_add_11 g9_4)))
set_option maxRecDepth 20000 in
theorem gX11_add_X9_come : GoodIn wsX11_add (wsV RX11 123 RX9 yX9_come wsX9_come) := goodIn_app (gin_c (mem_at i9wsX11_add_2 4 rfl) rfl (gin_c (mem_at i9wsX11_add_2 5 rfl) rfl (gin_c (mem_at i9wsX11_add_2 6 rfl) rfl (gin_c (mem_at i9wsX11_add_0 22 rfl) rfl gin_n)))) ggX11_add_X9_come
theorem i9wsX11_add_4 : ∀ w ∈ wsX11_add_r5, w ∈ wsX11_add := fun _ h => (List.mem_cons_of_mem _ (List.mem_append_left _ (List.mem_append_left _ (List.mem_append_left _ (List.mem_append_left _ (List.mem_append_left _ (List.mem_append_left _ (List.mem_append_left _ (List.mem_append_left _ (List.mem_append_left _ (List.mem_append_left _ (List.mem_append_left _ (List.mem_append_right _ (List.mem_append_right _ (List.mem_append_right _ (List.mem_append_right _ (List.mem_append_left _ h)))))))))))))))))
theorem i9wsX11_add_5 : ∀ w ∈ wsX11_add_r6, w ∈ wsX11_add := fun _ h => (List.mem_cons_of_mem _ (List.mem_append_left _ (List.mem_append_left _ (List.mem_append_left _ (List.mem_append_left _ (List.mem_append_left _ (List.mem_append_left _ (List.mem_append_left _ (List.mem_append_left _ (List.mem_append_left _ (List.mem_append_left _ (List.mem_append_left _ (List.mem_append_right _ (List.mem_append_right _ (List.mem_append_right _ (List.mem_append_right _ (List.mem_append_right _ h)))))))))))))))))
theorem i9wsX11_add_12 : ∀ w ∈ wsX40, w ∈ wsX11_add := fun _ h => (List.mem_cons_of_mem _ (List.mem_append_left _ (List.mem_append_left _ (List.mem_append_left _ (List.mem_append_left _ (List.mem_append_right _ h))))))
set_option maxRecDepth 20000 in
theorem ggX11_add_X10_place : GoodIn wsX11_add wsX10_place := (gin_c (mem_at i9wsX11_add_3 18 rfl) rfl (goodIn_app (goodIn_app (goodIn_app (goodIn_app (goodIn_app (gin_c (mem_at i9wsX11_add_1 8 rfl) rfl (gin_c (mem_at i9wsX11_add_3 19 rfl) rfl (gin_c (mem_at i9wsX11_add_3 20 rfl) rfl (gin_c (mem_at i9wsX11_add_3 21 rfl) rfl (gin_c (mem_at i9wsX11_add_3 22 rfl) rfl (gin_c (mem_at i9wsX11_add_1 5 rfl) rfl (gin_c (mem_at i9wsX11_add_3 23 rfl) rfl (gin_c (mem_at i9wsX11_add_4 0 rfl) rfl (gin_c (mem_at i9wsX11_add_4 1 rfl) rfl (gin_c (mem_at i9wsX11_add_4 2 rfl) rfl (gin_c (mem_at i9wsX11_add_4 3 rfl) rfl (gin_c (mem_at i9wsX11_add_4 4 rfl) rfl (gin_c (mem_at i9wsX11_add_4 5 rfl) rfl (gin_c (mem_at i9wsX11_add_4 6 rfl) rfl (gin_c (mem_at i9wsX11_add_4 7 rfl) rfl (gin_c (mem_at i9wsX11_add_4 8 rfl) rfl (gin_c (mem_at i9wsX11_add_4 9 rfl) rfl (gin_c (mem_at i9wsX11_add_4 10 rfl) rfl (gin_c (mem_at i9wsX11_add_4 11 rfl) rfl (gin_c (mem_at i9wsX11_add_4 12 rfl) rfl (gin_c (mem_at i9wsX11_add_4 13 rfl) rfl (gin_c (mem_at i9wsX11_add_4 14 rfl) rfl (gin_c (mem_at i9wsX11_add_4 15 rfl) rfl (gin_c (mem_at i9wsX11_add_4 16 rfl) rfl gin_n)))))))))))))))))))))))) (goodIn_app (gin_c (mem_at i9wsX11_add_4 17 rfl) rfl (gin_c (mem_at i9wsX11_add_4 18 rfl) rfl (gin_c (mem_at i9wsX11_add_4 19 rfl) rfl (gin_c (mem_at i9wsX11_add_4 20 rfl) rfl (gin_c (mem_at i9wsX11_add_4 21 rfl) rfl (gin_c (mem_at i9wsX11_add_4 22 rfl) rfl (gin_c (mem_at i9wsX11_add_4 23 rfl) rfl (gin_c (mem_at i9wsX11_add_5 0 rfl) rfl (gin_c (mem_at i9wsX11_add_5 1 rfl) rfl (gin_c (mem_at i9wsX11_add_5 2 rfl) rfl (gin_c (mem_at i9wsX11_add_5 3 rfl) rfl (gin_c (mem_at i9wsX11_add_5 4 rfl) rfl (gin_c (mem_at i9wsX11_add_5 5 rfl) rfl (gin_c (mem_at i9wsX11_add_5 6 rfl) rfl (gin_c (mem_at i9wsX11_add_5 7 rfl) rfl (gin_c (mem_at i9wsX11_add_5 8 rfl) rfl (gin_c (mem_at i9wsX11_add_5 9 rfl) rfl (gin_c (mem_at i9wsX11_add_5 10 rfl) rfl (gin_c (mem_at i9wsX11_add_5 11 rfl) rfl (gin_c (mem_at i9wsX11_add_5 12 rfl) rfl (gin_c (mem_at i9wsX11_add_5 13 rfl) rfl (gin_c (mem_at i9wsX11_add_3 1 rfl) rfl (gin_c (mem_at i9wsX11_add_3 2 rfl) rfl (gin_c (mem_at i9wsX11_add_5 14 rfl) rfl gin_n)))))))))))))))))))))))) (gin_c (mem_at i9wsX11_add_5 15 rfl) rfl gin_n))) (goodIn_sub i9wsX11_add_9 g9_3)) (goodIn_sub i9wsX11_add_7 g9_0)) (goodIn_sub i9wsX11_add_10 g9_1)) (goodIn_sub i9wsX11_add_12 g9_2)))
set_option maxRecDepth 20000 in
theorem gX11_add_X10_place : GoodIn wsX11_add (wsV RX11 129 RX10 yX10_place wsX10_place) := goodIn_app (gin_c (mem_at i9wsX11_add_3 15 rfl) rfl (gin_c (mem_at i9wsX11_add_3 16 rfl) rfl (gin_c (mem_at i9wsX11_add_3 17 rfl) rfl (gin_c (mem_at i9wsX11_add_1 5 rfl) rfl gin_n)))) ggX11_add_X10_place
set_option maxHeartbeats 4000000 in
set_option maxRecDepth 100000 in
theorem T_X11_add (l : Launch) (hl : l.stackTraces = false) (D : va_G) (cA : Nat → ClassId) {l0 : Option Nat} {l1 : Int32} {l2 : Int32} {x : HS} {Q : Int32 → HS → Prop} {X : String → HS → Prop} (h : w_X11_add l0 l1 l2 x Q X) : YI l yX11_add wsX11_add 7 112 D cA [.q l0, .i l1, .i l2] x Q X := by
  refine YI.of (cc := cX11_add) (maxL := 5) (ret := (some .int)) hl (by decide) rfl rfl (fun g B fr => ?_)
  have o := B.o
  have hb := B.hb
  have hts := B.hts
  have hown : g.s.vm.findClass RX11 = some g.m.cls := B.hown
  have in1 : ∀ w ∈ u_ws RX1 TX1 7, w ∈ wsX11_add := fun w h => (List.mem_cons_of_mem _ (List.mem_append_left _ (List.mem_append_left _ (List.mem_append_left _ (List.mem_append_left _ (List.mem_append_left _ (List.mem_append_left _ (List.mem_append_left _ (List.mem_append_left _ (List.mem_append_left _ (List.mem_append_right _ h)))))))))))
  have in11 : ∀ w ∈ u_ws RX11 TX11 12, w ∈ wsX11_add := fun w h => (List.mem_cons_of_mem _ (List.mem_append_left _ (List.mem_append_left _ (List.mem_append_left _ (List.mem_append_left _ (List.mem_append_left _ (List.mem_append_left _ (List.mem_append_left _ (List.mem_append_left _ (List.mem_append_left _ (List.mem_append_left _ (List.mem_append_right _ h))))))))))))
  unfold w_X11_add at h
  show KW g 5 0 [(0, .q l0), (1, .i l1), (2, .i l2)] [] x
  refine k_iload_n o hb dX11_add_0 rfl 2 rfl ?_
  refine k_iconst (v := 0) o hb dX11_add_1 (by decide) ?_
  refine k_iconst (v := 1) o hb dX11_add_2 (by decide) ?_
  refine k_run_v o (fun _ _ q => q) (k_runS o hb B.hml hown hts (T_X11_requireRange g.l o.hl g.D g.cA h) (va_cwS 3 hts gX11_add_X11_requireRange rfl rfl rfl (by decide +kernel) ⟨yle B.hR1 rfl, yle B.hR2 rfl⟩) rfl rfl (Nat.le_of_ble_eq_true rfl) dX11_add_3) (fun x1 h => ?_)
  refine k_aload_n o hb dX11_add_6 rfl 0 rfl ?_
  refine k_iload_n o hb dX11_add_7 rfl 1 rfl ?_
  refine k_run_q o (fun _ _ q => q) (k_runV (ci := 11) (rc := (RX11, TX11, 12)) o hb B.hml hown hts rfl (by decide) (T_X11_tableOf g.l o.hl g.D g.cA h.2) (cwV 1 hts gX11_add_X11_tableOf rfl rfl rfl (by decide +kernel) ⟨yle B.hR1 rfl, yle B.hR2 rfl⟩) h.1 rfl rfl (Nat.le_of_ble_eq_true rfl) dX11_add_8) (fun v4 x3 h => ?_)
  refine k_astore_n o hb dX11_add_11 rfl rfl ?_
  refine k_aload_n o hb dX11_add_12 rfl 0 rfl ?_
  refine k_aload_n o hb dX11_add_13 rfl 1 rfl ?_
  refine k_getF (C := RX11) (T := TX11) (N := 12) o hb hts in11 hown rfl (by decide) 1 (by decide) rfl (hts (.fieldLink RX11 13 "FactKeeper" "values" "[I") (by decide +kernel)) (fun _ h9 => h9) dX11_add_14 h (fun v5 h => ?_)
  refine k_run_i o (fun _ _ q => q) (k_runV (ci := 10) (rc := (RX10, TX10, 6)) o hb B.hml hown hts rfl (by decide) (T_X10_breaksKey g.l o.hl g.D g.cA h.2) (cwV 1 hts gX11_add_X10_breaksKey rfl rfl rfl (by decide +kernel) ⟨yle B.hR1 rfl, yle B.hR2 rfl⟩) h.1 rfl rfl (Nat.le_of_ble_eq_true rfl) dX11_add_17) (fun v7 x6 h => ?_)
  refine k_if_eq (tgt := 33) o hb dX11_add_20 (by decide) h (fun h => ?_) (fun h => ?_)
  · skip
    refine k_aload_n o hb dX11_add_33 rfl 1 rfl ?_
    refine k_getF (C := RX11) (T := TX11) (N := 12) o hb hts in11 hown rfl (by decide) 2 (by decide) rfl (hts (.fieldLink RX11 20 "FactKeeper" "store" "LFactKeeper$Store;") (by decide +kernel)) (fun _ h9 => h9) dX11_add_34 h (fun v8 h => ?_)
    refine k_aload_n o hb dX11_add_37 rfl 0 rfl ?_
    refine k_aload_n o hb dX11_add_38 rfl 1 rfl ?_
    refine k_getF (C := RX11) (T := TX11) (N := 12) o hb hts in11 hown rfl (by decide) 1 (by decide) rfl (hts (.fieldLink RX11 13 "FactKeeper" "values" "[I") (by decide +kernel)) (fun _ h9 => h9) dX11_add_39 h (fun v9 h => ?_)
    refine k_run_q o (fun _ _ q => q) (k_runV (ci := 9) (rc := (RX9, TX9, 8)) o hb B.hml hown hts rfl (by decide) (T_X9_come g.l o.hl g.D g.cA h.2) (cwV 2 hts gX11_add_X9_come rfl rfl rfl (by decide +kernel) ⟨yle B.hR1 rfl, yle B.hR2 rfl⟩) h.1 rfl rfl (Nat.le_of_ble_eq_true rfl) dX11_add_42) (fun v11 x10 h => ?_)
    refine k_astore o hb dX11_add_45 rfl ?_
    refine k_aload o hb dX11_add_47 0 rfl ?_
    refine k_ifnonnull (tgt := 62) o hb dX11_add_49 (by decide) h (fun h => ?_) (fun h => ?_)
    · skip
      refine k_throw (E := eIS) o (fun H locs cells slots mc ms ls XC hls hS hc1 hs1 hc2 hs2 hx9 => ?_) h
      obtain ⟨sa, hsa⟩ := o.hZ.2.2.2.2.2.2.1.2.2.2.2.2.2.2.1
      exact vx_throwS (cls := eIS) (names := eSup) (A := g.A) o.hx hb o.hl hown (by decide +kernel) (by decide +kernel) (hts (.classLink RX11 79 "java/lang/IllegalStateException") (by decide +kernel)) (hts (.initialized "java/lang/IllegalStateException") (by decide +kernel)) hsa (tx_at hts (fun w h => (List.mem_cons_of_mem _ (List.mem_append_left _ (List.mem_append_left _ (List.mem_append_right _ h))))) (by decide +kernel) o.hZ.2.2.2.1.2.2.1 o.hZ.2.2.2.2.2.2.2) (by decide +kernel) o.hZ.1 o.hZ.2.1 hS (hls.trans B.hml.symm) dX11_add_52 dX11_add_55 dX11_add_56 dX11_add_58 dX11_add_61 (fun x h => (o.htb x h).elim) (ylt B.hR1 rfl) (by rw [lq_cats]; exact yle B.hR2 rfl) hc1 hs1 o.hlk (fun t ha h1 h2 => hx9 t ha h1 h2) hS.2.2 hc2 hs2
    · skip
      refine k_aload_n o hb dX11_add_62 rfl 1 rfl ?_
      refine k_aload o hb dX11_add_63 0 rfl ?_
      refine k_iload_n o hb dX11_add_65 rfl 4 rfl ?_
      refine k_iconst (v := 1) o hb dX11_add_66 (by decide) ?_
      refine wJoin_elim (M := fun K => ∀ (v14 : Int32) (x13 : HS), K v14 x13 → KW g 5 75 [(4, .q v11)] [.i v14, .q v11, .q v4] x13) h ?_ (fun j12 hj12 h => ?_)
      · skip
        intro v14 x13 h
        refine k_run_v o (fun _ _ q => q) (k_runV (ci := 10) (rc := (RX10, TX10, 6)) o hb B.hml hown hts rfl (by decide) (T_X10_place g.l o.hl g.D g.cA h.2) (cwV 2 hts gX11_add_X10_place rfl rfl rfl (by decide +kernel) ⟨yle B.hR1 rfl, yle B.hR2 rfl⟩) h.1 rfl rfl (Nat.le_of_ble_eq_true rfl) dX11_add_75) (fun x15 h => ?_)
        refine k_aload o hb dX11_add_78 0 rfl ?_
        refine k_getI (C := RX1) (T := TX1) (N := 7) o hb hts in1 hown rfl (by decide) 4 (by decide) rfl (hts (.fieldLink RX11 133 "FactKeeper$Fact" "number" "I") (by decide +kernel)) (fun _ h9 => h9) dX11_add_80 h (fun v17 h => ?_)
        exact k_iret o hb B.hr fr dX11_add_83 h
      · skip
        refine k_icmp_ne (tgt := 74) o hb dX11_add_67 (by decide) h (fun h => ?_) (fun h => ?_)
        · skip
          refine k_iconst (v := 1) o hb dX11_add_70 (by decide) ?_
          refine k_goto (tgt := 75) o hb dX11_add_71 (by decide) ?_
          exact KW.sub [0] rfl (hj12 1 x10 h)
        · skip
          refine k_iconst (v := 0) o hb dX11_add_74 (by decide) ?_
          exact KW.sub [0] rfl (hj12 0 x10 h)
  · skip
    refine k_throw (E := eUO) o (fun H locs cells slots mc ms ls XC hls hS hc1 hs1 hc2 hs2 hx9 => ?_) h
    obtain ⟨sa, hsa⟩ := o.hZ.2.2.2.2.2.2.1.2.2.2.2.2.2.1
    exact vx_throwS (cls := eUO) (names := eSup) (A := g.A) o.hx hb o.hl hown (by decide +kernel) (by decide +kernel) (hts (.classLink RX11 118 "java/lang/UnsupportedOperationException") (by decide +kernel)) (hts (.initialized "java/lang/UnsupportedOperationException") (by decide +kernel)) hsa (tx_at hts (fun w h => (List.mem_cons_of_mem _ (List.mem_append_left _ (List.mem_append_left _ (List.mem_append_left _ (List.mem_append_right _ h)))))) (by decide +kernel) o.hZ.2.2.2.1.2.2.2.2.1 o.hZ.2.2.2.2.2.2.2) (by decide +kernel) o.hZ.1 o.hZ.2.1 hS (hls.trans B.hml.symm) dX11_add_23 dX11_add_26 dX11_add_27 dX11_add_29 dX11_add_32 (fun x h => (o.htb x h).elim) (ylt B.hR1 rfl) (by rw [lq_cats]; exact yle B.hR2 rfl) hc1 hs1 o.hlk (fun t ha h1 h2 => hx9 t ha h1 h2) hS.2.2 hc2 hs2
theorem dX11_requireTime_0 : decode cX11_requireTime 0 = .ok (.iload_n 1, 1) := by decide +kernel
theorem dX11_requireTime_1 : decode cX11_requireTime 1 = .ok (.iconst (-1), 1) := by decide +kernel
theorem dX11_requireTime_2 : decode cX11_requireTime 2 = .ok (.if_icmp .eq 21, 3) := by decide +kernel
theorem dX11_requireTime_5 : decode cX11_requireTime 5 = .ok (.iload_n 1, 1) := by decide +kernel
theorem dX11_requireTime_6 : decode cX11_requireTime 6 = .ok (.aload_n 0, 1) := by decide +kernel
theorem dX11_requireTime_7 : decode cX11_requireTime 7 = .ok (.getfield 20, 3) := by decide +kernel
theorem dX11_requireTime_10 : decode cX11_requireTime 10 = .ok (.getfield 308, 3) := by decide +kernel
theorem dX11_requireTime_13 : decode cX11_requireTime 13 = .ok (.aload_n 0, 1) := by decide +kernel
theorem dX11_requireTime_14 : decode cX11_requireTime 14 = .ok (.getfield 20, 3) := by decide +kernel
theorem dX11_requireTime_17 : decode cX11_requireTime 17 = .ok (.getfield 303, 3) := by decide +kernel
theorem dX11_requireTime_20 : decode cX11_requireTime 20 = .ok (.invokestatic 71, 3) := by decide +kernel
theorem dX11_requireTime_23 : decode cX11_requireTime 23 = .ok (.return_, 1) := by decide +kernel
theorem i9wsX11_requireTime_0 : ∀ w ∈ ([.fieldLink RX11 20 "FactKeeper" "store" "LFactKeeper$Store;", .fieldLink RX11 308 "FactKeeper$Store" "horizon" "I", .fieldLink RX11 303 "FactKeeper$Store" "time" "I", .methodLink RX11 71 yX11_requireRange, .static yX11_requireRange, .initialized RX11, .code yX11_requireRange cX11_requireRange 3 none, .classLink RX11 336 "java/lang/IllegalArgumentException", .initialized "java/lang/IllegalArgumentException"] : List Cond), w ∈ wsX11_requireTime := fun _ h => (List.mem_cons_of_mem _ (List.mem_append_left _ (List.mem_append_left _ (List.mem_append_left _ h))))
theorem i9wsX11_requireTime_3 : ∀ w ∈ ((vx_atS RX11 340 "java/lang/IllegalArgumentException" ["java/lang/RuntimeException", "java/lang/Exception"]).filter goodWord), w ∈ wsX11_requireTime := fun _ h => (List.mem_cons_of_mem _ (List.mem_append_right _ h))
set_option maxRecDepth 20000 in
theorem ggX11_requireTime_X11_requireRange : GoodIn wsX11_requireTime wsX11_requireRange := (gin_c (mem_at i9wsX11_requireTime_0 6 rfl) rfl (goodIn_app (gin_c (mem_at i9wsX11_requireTime_0 7 rfl) rfl (gin_c (mem_at i9wsX11_requireTime_0 8 rfl) rfl gin_n)) (goodIn_sub i9wsX11_requireTime_3 g9_14)))
set_option maxRecDepth 20000 in
theorem gX11_requireTime_X11_requireRange : GoodIn wsX11_requireTime (va_wsS RX11 71 yX11_requireRange wsX11_requireRange) := goodIn_app (gin_c (mem_at i9wsX11_requireTime_0 3 rfl) rfl (gin_c (mem_at i9wsX11_requireTime_0 4 rfl) rfl (gin_c (mem_at i9wsX11_requireTime_0 5 rfl) rfl gin_n))) ggX11_requireTime_X11_requireRange
set_option maxHeartbeats 4000000 in
set_option maxRecDepth 100000 in
theorem T_X11_requireTime (l : Launch) (hl : l.stackTraces = false) (D : va_G) (cA : Nat → ClassId) {l0 : Option Nat} {l1 : Int32} {x : HS} {Q : HS → Prop} {X : String → HS → Prop} (h : w_X11_requireTime l0 l1 x Q X) : YV l yX11_requireTime wsX11_requireTime 7 112 D cA [.q l0, .i l1] x Q X := by
  refine YV.of (cc := cX11_requireTime) (maxL := 2) (ret := none) hl (by decide) rfl rfl (fun g B fr => ?_)
  have o := B.o
  have hb := B.hb
  have hts := B.hts
  have hown : g.s.vm.findClass RX11 = some g.m.cls := B.hown
  have in9 : ∀ w ∈ u_ws RX9 TX9 8, w ∈ wsX11_requireTime := fun w h => (List.mem_cons_of_mem _ (List.mem_append_left _ (List.mem_append_right _ h)))
  have in11 : ∀ w ∈ u_ws RX11 TX11 12, w ∈ wsX11_requireTime := fun w h => (List.mem_cons_of_mem _ (List.mem_append_left _ (List.mem_append_left _ (List.mem_append_right _ h))))
  unfold w_X11_requireTime at h
  show KW g 2 0 [(0, .q l0), (1, .i l1)] [] x
  refine k_iload_n o hb dX11_requireTime_0 rfl 1 rfl ?_
  refine k_iconst (v := (-1)) o hb dX11_requireTime_1 (by decide) ?_
  refine wJoin_elim (M := fun K => ∀  (x2 : HS), K  x2 → KW g 2 23 [] [] x2) h ?_ (fun j1 hj1 h => ?_)
  · skip
    intro  x2 h
    exact k_vret o hb B.hr fr dX11_requireTime_23 h
  · skip
    refine k_icmp_eq (tgt := 23) o hb dX11_requireTime_2 (by decide) h (fun h => ?_) (fun h => ?_)
    · skip
      exact KW.sub [] rfl (hj1 x h)
    · skip
      refine k_iload_n o hb dX11_requireTime_5 rfl 1 rfl ?_
      refine k_aload_n o hb dX11_requireTime_6 rfl 0 rfl ?_
      refine k_getF (C := RX11) (T := TX11) (N := 12) o hb hts in11 hown rfl (by decide) 2 (by decide) rfl (hts (.fieldLink RX11 20 "FactKeeper" "store" "LFactKeeper$Store;") (by decide +kernel)) (fun _ h9 => h9) dX11_requireTime_7 h (fun v3 h => ?_)
      refine k_getI (C := RX9) (T := TX9) (N := 8) o hb hts in9 hown rfl (by decide) 7 (by decide) rfl (hts (.fieldLink RX11 308 "FactKeeper$Store" "horizon" "I") (by decide +kernel)) (fun _ h9 => h9) dX11_requireTime_10 h (fun v4 h => ?_)
      refine k_aload_n o hb dX11_requireTime_13 rfl 0 rfl ?_
      refine k_getF (C := RX11) (T := TX11) (N := 12) o hb hts in11 hown rfl (by decide) 2 (by decide) rfl (hts (.fieldLink RX11 20 "FactKeeper" "store" "LFactKeeper$Store;") (by decide +kernel)) (fun _ h9 => h9) dX11_requireTime_14 h (fun v5 h => ?_)
      refine k_getI (C := RX9) (T := TX9) (N := 8) o hb hts in9 hown rfl (by decide) 6 (by decide) rfl (hts (.fieldLink RX11 303 "FactKeeper$Store" "time" "I") (by decide +kernel)) (fun _ h9 => h9) dX11_requireTime_17 h (fun v6 h => ?_)
      refine k_run_v o (fun _ _ q => q) (k_runS o hb B.hml hown hts (T_X11_requireRange g.l o.hl g.D g.cA h) (va_cwS 3 hts gX11_requireTime_X11_requireRange rfl rfl rfl (by decide +kernel) ⟨yle B.hR1 rfl, yle B.hR2 rfl⟩) rfl rfl (Nat.le_of_ble_eq_true rfl) dX11_requireTime_20) (fun x7 h => ?_)
      exact KW.sub [] rfl (hj1 x7 h)
theorem dX11_requireLook_0 : decode cX11_requireLook 0 = .ok (.iload_n 2, 1) := by decide +kernel
theorem dX11_requireLook_1 : decode cX11_requireLook 1 = .ok (.iconst 0, 1) := by decide +kernel
theorem dX11_requireLook_2 : decode cX11_requireLook 2 = .ok (.bipush 15, 2) := by decide +kernel
theorem dX11_requireLook_4 : decode cX11_requireLook 4 = .ok (.invokestatic 71, 3) := by decide +kernel
theorem dX11_requireLook_7 : decode cX11_requireLook 7 = .ok (.aload_n 0, 1) := by decide +kernel
theorem dX11_requireLook_8 : decode cX11_requireLook 8 = .ok (.iload_n 3, 1) := by decide +kernel
theorem dX11_requireLook_9 : decode cX11_requireLook 9 = .ok (.invokevirtual 236, 3) := by decide +kernel
theorem dX11_requireLook_12 : decode cX11_requireLook 12 = .ok (.aload_n 0, 1) := by decide +kernel
theorem dX11_requireLook_13 : decode cX11_requireLook 13 = .ok (.iload_n 1, 1) := by decide +kernel
theorem dX11_requireLook_14 : decode cX11_requireLook 14 = .ok (.invokevirtual 84, 3) := by decide +kernel
theorem dX11_requireLook_17 : decode cX11_requireLook 17 = .ok (.pop, 1) := by decide +kernel
theorem dX11_requireLook_18 : decode cX11_requireLook 18 = .ok (.return_, 1) := by decide +kernel
theorem i9wsX11_requireLook_0 : ∀ w ∈ wsX11_requireLook_r1, w ∈ wsX11_requireLook := fun _ h => (List.mem_cons_of_mem _ (List.mem_append_left _ (List.mem_append_left _ (List.mem_append_left _ (List.mem_append_left _ (List.mem_append_left _ h))))))
theorem i9wsX11_requireLook_4 : ∀ w ∈ ((vx_atS RX11 340 "java/lang/IllegalArgumentException" ["java/lang/RuntimeException", "java/lang/Exception"]).filter goodWord), w ∈ wsX11_requireLook := fun _ h => (List.mem_cons_of_mem _ (List.mem_append_left _ (List.mem_append_right _ h)))
set_option maxRecDepth 20000 in
theorem ggX11_requireLook_X11_requireRange : GoodIn wsX11_requireLook wsX11_requireRange := (gin_c (mem_at i9wsX11_requireLook_0 3 rfl) rfl (goodIn_app (gin_c (mem_at i9wsX11_requireLook_0 4 rfl) rfl (gin_c (mem_at i9wsX11_requireLook_0 5 rfl) rfl gin_n)) (goodIn_sub i9wsX11_requireLook_4 g9_14)))
set_option maxRecDepth 20000 in
theorem gX11_requireLook_X11_requireRange : GoodIn wsX11_requireLook (va_wsS RX11 71 yX11_requireRange wsX11_requireRange) := goodIn_app (gin_c (mem_at i9wsX11_requireLook_0 0 rfl) rfl (gin_c (mem_at i9wsX11_requireLook_0 1 rfl) rfl (gin_c (mem_at i9wsX11_requireLook_0 2 rfl) rfl gin_n))) ggX11_requireLook_X11_requireRange
theorem i9wsX11_requireLook_2 : ∀ w ∈ wsX110, w ∈ wsX11_requireLook := fun _ h => (List.mem_cons_of_mem _ (List.mem_append_left _ (List.mem_append_left _ (List.mem_append_left _ (List.mem_append_right _ h)))))
theorem i9wsX11_requireLook_3 : ∀ w ∈ wsX90, w ∈ wsX11_requireLook := fun _ h => (List.mem_cons_of_mem _ (List.mem_append_left _ (List.mem_append_left _ (List.mem_append_right _ h))))
set_option maxRecDepth 20000 in
theorem ggX11_requireLook_X11_requireTime : GoodIn wsX11_requireLook wsX11_requireTime := (gin_c (mem_at i9wsX11_requireLook_0 9 rfl) rfl (goodIn_app (goodIn_app (goodIn_app (gin_c (mem_at i9wsX11_requireLook_0 10 rfl) rfl (gin_c (mem_at i9wsX11_requireLook_0 11 rfl) rfl (gin_c (mem_at i9wsX11_requireLook_0 12 rfl) rfl (gin_c (mem_at i9wsX11_requireLook_0 0 rfl) rfl (gin_c (mem_at i9wsX11_requireLook_0 1 rfl) rfl (gin_c (mem_at i9wsX11_requireLook_0 2 rfl) rfl (gin_c (mem_at i9wsX11_requireLook_0 3 rfl) rfl (gin_c (mem_at i9wsX11_requireLook_0 4 rfl) rfl (gin_c (mem_at i9wsX11_requireLook_0 5 rfl) rfl gin_n))))))))) (goodIn_sub i9wsX11_requireLook_2 g9_13)) (goodIn_sub i9wsX11_requireLook_3 g9_5)) (goodIn_sub i9wsX11_requireLook_4 g9_14)))
set_option maxRecDepth 20000 in
theorem gX11_requireLook_X11_requireTime : GoodIn wsX11_requireLook (wsV RX11 236 RX11 yX11_requireTime wsX11_requireTime) := goodIn_app (gin_c (mem_at i9wsX11_requireLook_0 6 rfl) rfl (gin_c (mem_at i9wsX11_requireLook_0 7 rfl) rfl (gin_c (mem_at i9wsX11_requireLook_0 8 rfl) rfl (gin_c (mem_at i9wsX11_requireLook_0 2 rfl) rfl gin_n)))) ggX11_requireLook_X11_requireTime
theorem i9wsX11_requireLook_1 : ∀ w ∈ wsX11_requireLook_r2, w ∈ wsX11_requireLook := fun _ h => (List.mem_cons_of_mem _ (List.mem_append_left _ (List.mem_append_left _ (List.mem_append_left _ (List.mem_append_left _ (List.mem_append_right _ h))))))
theorem i9wsX11_requireLook_5 : ∀ w ∈ ((tn_at RX11 184 "java/util/NoSuchElementException").filter goodWord), w ∈ wsX11_requireLook := fun _ h => (List.mem_cons_of_mem _ (List.mem_append_right _ h))
set_option maxRecDepth 20000 in
theorem ggX11_requireLook_X11_tableOf : GoodIn wsX11_requireLook wsX11_tableOf := (gin_c (mem_at i9wsX11_requireLook_0 16 rfl) rfl (goodIn_app (goodIn_app (goodIn_app (gin_c (mem_at i9wsX11_requireLook_0 17 rfl) rfl (gin_c (mem_at i9wsX11_requireLook_0 18 rfl) rfl (gin_c (mem_at i9wsX11_requireLook_0 10 rfl) rfl (gin_c (mem_at i9wsX11_requireLook_0 19 rfl) rfl (gin_c (mem_at i9wsX11_requireLook_0 20 rfl) rfl (gin_c (mem_at i9wsX11_requireLook_0 21 rfl) rfl (gin_c (mem_at i9wsX11_requireLook_0 22 rfl) rfl (gin_c (mem_at i9wsX11_requireLook_0 23 rfl) rfl (gin_c (mem_at i9wsX11_requireLook_1 0 rfl) rfl (gin_c (mem_at i9wsX11_requireLook_1 1 rfl) rfl gin_n)))))))))) (goodIn_sub i9wsX11_requireLook_2 g9_13)) (goodIn_sub i9wsX11_requireLook_3 g9_5)) (goodIn_sub i9wsX11_requireLook_5 g9_15)))
set_option maxRecDepth 20000 in
theorem gX11_requireLook_X11_tableOf : GoodIn wsX11_requireLook (wsV RX11 84 RX11 yX11_tableOf wsX11_tableOf) := goodIn_app (gin_c (mem_at i9wsX11_requireLook_0 13 rfl) rfl (gin_c (mem_at i9wsX11_requireLook_0 14 rfl) rfl (gin_c (mem_at i9wsX11_requireLook_0 15 rfl) rfl (gin_c (mem_at i9wsX11_requireLook_0 2 rfl) rfl gin_n)))) ggX11_requireLook_X11_tableOf
set_option maxHeartbeats 4000000 in
set_option maxRecDepth 100000 in
theorem T_X11_requireLook (l : Launch) (hl : l.stackTraces = false) (D : va_G) (cA : Nat → ClassId) {l0 : Option Nat} {l1 : Int32} {l2 : Int32} {l3 : Int32} {x : HS} {Q : HS → Prop} {X : String → HS → Prop} (h : w_X11_requireLook l0 l1 l2 l3 x Q X) : YV l yX11_requireLook wsX11_requireLook 8 133 D cA [.q l0, .i l1, .i l2, .i l3] x Q X := by
  refine YV.of (cc := cX11_requireLook) (maxL := 4) (ret := none) hl (by decide) rfl rfl (fun g B fr => ?_)
  have o := B.o
  have hb := B.hb
  have hts := B.hts
  have hown : g.s.vm.findClass RX11 = some g.m.cls := B.hown
  unfold w_X11_requireLook at h
  show KW g 4 0 [(0, .q l0), (1, .i l1), (2, .i l2), (3, .i l3)] [] x
  refine k_iload_n o hb dX11_requireLook_0 rfl 2 rfl ?_
  refine k_iconst (v := 0) o hb dX11_requireLook_1 (by decide) ?_
  refine k_bipush (v := 15) o hb dX11_requireLook_2 (by decide) ?_
  refine k_run_v o (fun _ _ q => q) (k_runS o hb B.hml hown hts (T_X11_requireRange g.l o.hl g.D g.cA h) (va_cwS 3 hts gX11_requireLook_X11_requireRange rfl rfl rfl (by decide +kernel) ⟨yle B.hR1 rfl, yle B.hR2 rfl⟩) rfl rfl (Nat.le_of_ble_eq_true rfl) dX11_requireLook_4) (fun x1 h => ?_)
  refine k_aload_n o hb dX11_requireLook_7 rfl 0 rfl ?_
  refine k_iload_n o hb dX11_requireLook_8 rfl 3 rfl ?_
  refine k_run_v o (fun _ _ q => q) (k_runV (ci := 11) (rc := (RX11, TX11, 12)) o hb B.hml hown hts rfl (by decide) (T_X11_requireTime g.l o.hl g.D g.cA h.2) (cwV 1 hts gX11_requireLook_X11_requireTime rfl rfl rfl (by decide +kernel) ⟨yle B.hR1 rfl, yle B.hR2 rfl⟩) h.1 rfl rfl (Nat.le_of_ble_eq_true rfl) dX11_requireLook_9) (fun x3 h => ?_)
  refine k_aload_n o hb dX11_requireLook_12 rfl 0 rfl ?_
  refine k_iload_n o hb dX11_requireLook_13 rfl 1 rfl ?_
  refine k_run_q o (fun _ _ q => q) (k_runV (ci := 11) (rc := (RX11, TX11, 12)) o hb B.hml hown hts rfl (by decide) (T_X11_tableOf g.l o.hl g.D g.cA h.2) (cwV 1 hts gX11_requireLook_X11_tableOf rfl rfl rfl (by decide +kernel) ⟨yle B.hR1 rfl, yle B.hR2 rfl⟩) h.1 rfl rfl (Nat.le_of_ble_eq_true rfl) dX11_requireLook_14) (fun v6 x5 h => ?_)
  refine k_pop o hb dX11_requireLook_17 ?_
  exact k_vret o hb B.hr fr dX11_requireLook_18 h
theorem dX11_beginLook_0 : decode cX11_beginLook 0 = .ok (.aload_n 0, 1) := by decide +kernel
theorem dX11_beginLook_1 : decode cX11_beginLook 1 = .ok (.iload_n 2, 1) := by decide +kernel
theorem dX11_beginLook_2 : decode cX11_beginLook 2 = .ok (.iload_n 3, 1) := by decide +kernel
theorem dX11_beginLook_3 : decode cX11_beginLook 3 = .ok (.iload 4, 2) := by decide +kernel
theorem dX11_beginLook_5 : decode cX11_beginLook 5 = .ok (.invokevirtual 162, 3) := by decide +kernel
theorem dX11_beginLook_8 : decode cX11_beginLook 8 = .ok (.aload_n 1, 1) := by decide +kernel
theorem dX11_beginLook_9 : decode cX11_beginLook 9 = .ok (.aload_n 0, 1) := by decide +kernel
theorem dX11_beginLook_10 : decode cX11_beginLook 10 = .ok (.iload_n 2, 1) := by decide +kernel
theorem dX11_beginLook_11 : decode cX11_beginLook 11 = .ok (.invokevirtual 84, 3) := by decide +kernel
theorem dX11_beginLook_14 : decode cX11_beginLook 14 = .ok (.iload_n 3, 1) := by decide +kernel
theorem dX11_beginLook_15 : decode cX11_beginLook 15 = .ok (.aload_n 0, 1) := by decide +kernel
theorem dX11_beginLook_16 : decode cX11_beginLook 16 = .ok (.getfield 13, 3) := by decide +kernel
theorem dX11_beginLook_19 : decode cX11_beginLook 19 = .ok (.aload_n 0, 1) := by decide +kernel
theorem dX11_beginLook_20 : decode cX11_beginLook 20 = .ok (.getfield 20, 3) := by decide +kernel
theorem dX11_beginLook_23 : decode cX11_beginLook 23 = .ok (.iload 4, 2) := by decide +kernel
theorem dX11_beginLook_25 : decode cX11_beginLook 25 = .ok (.invokevirtual 244, 3) := by decide +kernel
theorem dX11_beginLook_28 : decode cX11_beginLook 28 = .ok (.invokevirtual 323, 3) := by decide +kernel
theorem dX11_beginLook_31 : decode cX11_beginLook 31 = .ok (.return_, 1) := by decide +kernel
theorem i9wsX11_beginLook_0 : ∀ w ∈ wsX11_beginLook_r1, w ∈ wsX11_beginLook := fun _ h => (List.mem_cons_of_mem _ (List.mem_append_left _ (List.mem_append_left _ (List.mem_append_left _ (List.mem_append_left _ (List.mem_append_left _ (List.mem_append_left _ (List.mem_append_left _ h))))))))
theorem i9wsX11_beginLook_1 : ∀ w ∈ wsX11_beginLook_r2, w ∈ wsX11_beginLook := fun _ h => (List.mem_cons_of_mem _ (List.mem_append_left _ (List.mem_append_left _ (List.mem_append_left _ (List.mem_append_left _ (List.mem_append_left _ (List.mem_append_left _ (List.mem_append_right _ (List.mem_append_left _ h)))))))))
theorem i9wsX11_beginLook_3 : ∀ w ∈ wsX110, w ∈ wsX11_beginLook := fun _ h => (List.mem_cons_of_mem _ (List.mem_append_left _ (List.mem_append_left _ (List.mem_append_left _ (List.mem_append_left _ (List.mem_append_left _ (List.mem_append_right _ h)))))))
theorem i9wsX11_beginLook_4 : ∀ w ∈ wsX90, w ∈ wsX11_beginLook := fun _ h => (List.mem_cons_of_mem _ (List.mem_append_left _ (List.mem_append_left _ (List.mem_append_left _ (List.mem_append_left _ (List.mem_append_right _ h))))))
theorem i9wsX11_beginLook_7 : ∀ w ∈ ((vx_atS RX11 340 "java/lang/IllegalArgumentException" ["java/lang/RuntimeException", "java/lang/Exception"]).filter goodWord), w ∈ wsX11_beginLook := fun _ h => (List.mem_cons_of_mem _ (List.mem_append_left _ (List.mem_append_right _ h)))
theorem i9wsX11_beginLook_8 : ∀ w ∈ ((tn_at RX11 184 "java/util/NoSuchElementException").filter goodWord), w ∈ wsX11_beginLook := fun _ h => (List.mem_cons_of_mem _ (List.mem_append_right _ h))
set_option maxRecDepth 20000 in
theorem ggX11_beginLook_X11_requireLook : GoodIn wsX11_beginLook wsX11_requireLook := (gin_c (mem_at i9wsX11_beginLook_0 6 rfl) rfl (goodIn_app (goodIn_app (goodIn_app (goodIn_app (goodIn_app (gin_c (mem_at i9wsX11_beginLook_0 7 rfl) rfl (gin_c (mem_at i9wsX11_beginLook_0 8 rfl) rfl (gin_c (mem_at i9wsX11_beginLook_0 5 rfl) rfl (gin_c (mem_at i9wsX11_beginLook_0 9 rfl) rfl (gin_c (mem_at i9wsX11_beginLook_0 10 rfl) rfl (gin_c (mem_at i9wsX11_beginLook_0 11 rfl) rfl (gin_c (mem_at i9wsX11_beginLook_0 12 rfl) rfl (gin_c (mem_at i9wsX11_beginLook_0 13 rfl) rfl (gin_c (mem_at i9wsX11_beginLook_0 14 rfl) rfl (gin_c (mem_at i9wsX11_beginLook_0 15 rfl) rfl (gin_c (mem_at i9wsX11_beginLook_0 1 rfl) rfl (gin_c (mem_at i9wsX11_beginLook_0 16 rfl) rfl (gin_c (mem_at i9wsX11_beginLook_0 17 rfl) rfl (gin_c (mem_at i9wsX11_beginLook_0 18 rfl) rfl (gin_c (mem_at i9wsX11_beginLook_0 19 rfl) rfl (gin_c (mem_at i9wsX11_beginLook_0 20 rfl) rfl (gin_c (mem_at i9wsX11_beginLook_0 21 rfl) rfl (gin_c (mem_at i9wsX11_beginLook_0 22 rfl) rfl (gin_c (mem_at i9wsX11_beginLook_0 23 rfl) rfl (gin_c (mem_at i9wsX11_beginLook_1 0 rfl) rfl (gin_c (mem_at i9wsX11_beginLook_1 1 rfl) rfl (gin_c (mem_at i9wsX11_beginLook_1 2 rfl) rfl (gin_c (mem_at i9wsX11_beginLook_1 3 rfl) rfl (gin_c (mem_at i9wsX11_beginLook_1 4 rfl) rfl gin_n)))))))))))))))))))))))) (gin_c (mem_at i9wsX11_beginLook_1 5 rfl) rfl (gin_c (mem_at i9wsX11_beginLook_1 6 rfl) rfl gin_n))) (goodIn_sub i9wsX11_beginLook_3 g9_13)) (goodIn_sub i9wsX11_beginLook_4 g9_5)) (goodIn_sub i9wsX11_beginLook_7 g9_14)) (goodIn_sub i9wsX11_beginLook_8 g9_15)))
set_option maxRecDepth 20000 in
theorem gX11_beginLook_X11_requireLook : GoodIn wsX11_beginLook (wsV RX11 162 RX11 yX11_requireLook wsX11_requireLook) := goodIn_app (gin_c (mem_at i9wsX11_beginLook_0 2 rfl) rfl (gin_c (mem_at i9wsX11_beginLook_0 3 rfl) rfl (gin_c (mem_at i9wsX11_beginLook_0 4 rfl) rfl (gin_c (mem_at i9wsX11_beginLook_0 5 rfl) rfl gin_n)))) ggX11_beginLook_X11_requireLook
set_option maxRecDepth 20000 in
theorem ggX11_beginLook_X11_tableOf : GoodIn wsX11_beginLook wsX11_tableOf := (gin_c (mem_at i9wsX11_beginLook_0 21 rfl) rfl (goodIn_app (goodIn_app (goodIn_app (gin_c (mem_at i9wsX11_beginLook_0 22 rfl) rfl (gin_c (mem_at i9wsX11_beginLook_0 23 rfl) rfl (gin_c (mem_at i9wsX11_beginLook_0 1 rfl) rfl (gin_c (mem_at i9wsX11_beginLook_1 0 rfl) rfl (gin_c (mem_at i9wsX11_beginLook_1 1 rfl) rfl (gin_c (mem_at i9wsX11_beginLook_1 2 rfl) rfl (gin_c (mem_at i9wsX11_beginLook_1 3 rfl) rfl (gin_c (mem_at i9wsX11_beginLook_1 4 rfl) rfl (gin_c (mem_at i9wsX11_beginLook_1 5 rfl) rfl (gin_c (mem_at i9wsX11_beginLook_1 6 rfl) rfl gin_n)))))))))) (goodIn_sub i9wsX11_beginLook_3 g9_13)) (goodIn_sub i9wsX11_beginLook_4 g9_5)) (goodIn_sub i9wsX11_beginLook_8 g9_15)))
set_option maxRecDepth 20000 in
theorem gX11_beginLook_X11_tableOf : GoodIn wsX11_beginLook (wsV RX11 84 RX11 yX11_tableOf wsX11_tableOf) := goodIn_app (gin_c (mem_at i9wsX11_beginLook_0 18 rfl) rfl (gin_c (mem_at i9wsX11_beginLook_0 19 rfl) rfl (gin_c (mem_at i9wsX11_beginLook_0 20 rfl) rfl (gin_c (mem_at i9wsX11_beginLook_0 5 rfl) rfl gin_n)))) ggX11_beginLook_X11_tableOf
set_option maxRecDepth 20000 in
theorem ggX11_beginLook_X9_timeOf : GoodIn wsX11_beginLook wsX9_timeOf := (gin_c (mem_at i9wsX11_beginLook_1 10 rfl) rfl (goodIn_app (gin_c (mem_at i9wsX11_beginLook_1 11 rfl) rfl gin_n) (goodIn_sub i9wsX11_beginLook_4 g9_5)))
set_option maxRecDepth 20000 in
theorem gX11_beginLook_X9_timeOf : GoodIn wsX11_beginLook (wsV RX11 244 RX9 yX9_timeOf wsX9_timeOf) := goodIn_app (gin_c (mem_at i9wsX11_beginLook_1 7 rfl) rfl (gin_c (mem_at i9wsX11_beginLook_1 8 rfl) rfl (gin_c (mem_at i9wsX11_beginLook_1 9 rfl) rfl (gin_c (mem_at i9wsX11_beginLook_1 3 rfl) rfl gin_n)))) ggX11_beginLook_X9_timeOf
theorem i9wsX11_beginLook_2 : ∀ w ∈ wsX11_beginLook_r3, w ∈ wsX11_beginLook := fun _ h => (List.mem_cons_of_mem _ (List.mem_append_left _ (List.mem_append_left _ (List.mem_append_left _ (List.mem_append_left _ (List.mem_append_left _ (List.mem_append_left _ (List.mem_append_right _ (List.mem_append_right _ h)))))))))
theorem i9wsX11_beginLook_5 : ∀ w ∈ wsX50, w ∈ wsX11_beginLook := fun _ h => (List.mem_cons_of_mem _ (List.mem_append_left _ (List.mem_append_left _ (List.mem_append_left _ (List.mem_append_right _ h)))))
theorem i9wsX11_beginLook_6 : ∀ w ∈ wsX100, w ∈ wsX11_beginLook := fun _ h => (List.mem_cons_of_mem _ (List.mem_append_left _ (List.mem_append_left _ (List.mem_append_right _ h))))
set_option maxRecDepth 20000 in
theorem ggX11_beginLook_X5_begin : GoodIn wsX11_beginLook wsX5_begin := (gin_c (mem_at i9wsX11_beginLook_1 16 rfl) rfl (goodIn_app (goodIn_app (gin_c (mem_at i9wsX11_beginLook_1 17 rfl) rfl (gin_c (mem_at i9wsX11_beginLook_1 18 rfl) rfl (gin_c (mem_at i9wsX11_beginLook_1 19 rfl) rfl (gin_c (mem_at i9wsX11_beginLook_1 20 rfl) rfl (gin_c (mem_at i9wsX11_beginLook_1 21 rfl) rfl (gin_c (mem_at i9wsX11_beginLook_1 22 rfl) rfl (gin_c (mem_at i9wsX11_beginLook_1 23 rfl) rfl (gin_c (mem_at i9wsX11_beginLook_2 0 rfl) rfl (gin_c (mem_at i9wsX11_beginLook_2 1 rfl) rfl (gin_c (mem_at i9wsX11_beginLook_2 2 rfl) rfl (gin_c (mem_at i9wsX11_beginLook_2 3 rfl) rfl (gin_c (mem_at i9wsX11_beginLook_2 4 rfl) rfl (gin_c (mem_at i9wsX11_beginLook_2 5 rfl) rfl (gin_c (mem_at i9wsX11_beginLook_2 6 rfl) rfl gin_n)))))))))))))) (goodIn_sub i9wsX11_beginLook_5 g9_10)) (goodIn_sub i9wsX11_beginLook_6 g9_3)))
set_option maxRecDepth 20000 in
theorem gX11_beginLook_X5_begin : GoodIn wsX11_beginLook (wsV RX11 323 RX5 yX5_begin wsX5_begin) := goodIn_app (gin_c (mem_at i9wsX11_beginLook_1 12 rfl) rfl (gin_c (mem_at i9wsX11_beginLook_1 13 rfl) rfl (gin_c (mem_at i9wsX11_beginLook_1 14 rfl) rfl (gin_c (mem_at i9wsX11_beginLook_1 15 rfl) rfl gin_n)))) ggX11_beginLook_X5_begin
set_option maxHeartbeats 4000000 in
set_option maxRecDepth 100000 in
theorem T_X11_beginLook (l : Launch) (hl : l.stackTraces = false) (D : va_G) (cA : Nat → ClassId) {l0 : Option Nat} {l1 : Option Nat} {l2 : Int32} {l3 : Int32} {l4 : Int32} {x : HS} {Q : HS → Prop} {X : String → HS → Prop} (h : w_X11_beginLook l0 l1 l2 l3 l4 x Q X) : YV l yX11_beginLook wsX11_beginLook 9 156 D cA [.q l0, .q l1, .i l2, .i l3, .i l4] x Q X := by
  refine YV.of (cc := cX11_beginLook) (maxL := 5) (ret := none) hl (by decide) rfl rfl (fun g B fr => ?_)
  have o := B.o
  have hb := B.hb
  have hts := B.hts
  have hown : g.s.vm.findClass RX11 = some g.m.cls := B.hown
  have in11 : ∀ w ∈ u_ws RX11 TX11 12, w ∈ wsX11_beginLook := fun w h => (List.mem_cons_of_mem _ (List.mem_append_left _ (List.mem_append_left _ (List.mem_append_left _ (List.mem_append_left _ (List.mem_append_left _ (List.mem_append_right _ h)))))))
  unfold w_X11_beginLook at h
  show KW g 5 0 [(0, .q l0), (1, .q l1), (2, .i l2), (3, .i l3), (4, .i l4)] [] x
  refine k_aload_n o hb dX11_beginLook_0 rfl 0 rfl ?_
  refine k_iload_n o hb dX11_beginLook_1 rfl 2 rfl ?_
  refine k_iload_n o hb dX11_beginLook_2 rfl 3 rfl ?_
  refine k_iload o hb dX11_beginLook_3 4 rfl ?_
  refine k_run_v o (fun _ _ q => q) (k_runV (ci := 11) (rc := (RX11, TX11, 12)) o hb B.hml hown hts rfl (by decide) (T_X11_requireLook g.l o.hl g.D g.cA h.2) (cwV 3 hts gX11_beginLook_X11_requireLook rfl rfl rfl (by decide +kernel) ⟨yle B.hR1 rfl, yle B.hR2 rfl⟩) h.1 rfl rfl (Nat.le_of_ble_eq_true rfl) dX11_beginLook_5) (fun x1 h => ?_)
  refine k_aload_n o hb dX11_beginLook_8 rfl 1 rfl ?_
  refine k_aload_n o hb dX11_beginLook_9 rfl 0 rfl ?_
  refine k_iload_n o hb dX11_beginLook_10 rfl 2 rfl ?_
  refine k_run_q o (fun _ _ q => q) (k_runV (ci := 11) (rc := (RX11, TX11, 12)) o hb B.hml hown hts rfl (by decide) (T_X11_tableOf g.l o.hl g.D g.cA h.2) (cwV 1 hts gX11_beginLook_X11_tableOf rfl rfl rfl (by decide +kernel) ⟨yle B.hR1 rfl, yle B.hR2 rfl⟩) h.1 rfl rfl (Nat.le_of_ble_eq_true rfl) dX11_beginLook_11) (fun v4 x3 h => ?_)
  refine k_iload_n o hb dX11_beginLook_14 rfl 3 rfl ?_
  refine k_aload_n o hb dX11_beginLook_15 rfl 0 rfl ?_
  refine k_getF (C := RX11) (T := TX11) (N := 12) o hb hts in11 hown rfl (by decide) 1 (by decide) rfl (hts (.fieldLink RX11 13 "FactKeeper" "values" "[I") (by decide +kernel)) (fun _ h9 => h9) dX11_beginLook_16 h (fun v5 h => ?_)
  refine k_aload_n o hb dX11_beginLook_19 rfl 0 rfl ?_
  refine k_getF (C := RX11) (T := TX11) (N := 12) o hb hts in11 hown rfl (by decide) 2 (by decide) rfl (hts (.fieldLink RX11 20 "FactKeeper" "store" "LFactKeeper$Store;") (by decide +kernel)) (fun _ h9 => h9) dX11_beginLook_20 h (fun v6 h => ?_)
  refine k_iload o hb dX11_beginLook_23 4 rfl ?_
  refine k_run_i o (fun _ _ q => q) (k_runV (ci := 9) (rc := (RX9, TX9, 8)) o hb B.hml hown hts rfl (by decide) (T_X9_timeOf g.l o.hl g.D g.cA h.2) (cwV 1 hts gX11_beginLook_X9_timeOf rfl rfl rfl (by decide +kernel) ⟨yle B.hR1 rfl, yle B.hR2 rfl⟩) h.1 rfl rfl (Nat.le_of_ble_eq_true rfl) dX11_beginLook_25) (fun v8 x7 h => ?_)
  refine k_run_v o (fun _ _ q => q) (k_runV (ci := 5) (rc := (RX5, TX5, 8)) o hb B.hml hown hts rfl (by decide) (T_X5_begin g.l o.hl g.D g.cA h.2) (cwV 4 hts gX11_beginLook_X5_begin rfl rfl rfl (by decide +kernel) ⟨yle B.hR1 rfl, yle B.hR2 rfl⟩) h.1 rfl rfl (Nat.le_of_ble_eq_true rfl) dX11_beginLook_28) (fun x9 h => ?_)
  exact k_vret o hb B.hr fr dX11_beginLook_31 h
theorem dX11_numberOf_0 : decode cX11_numberOf 0 = .ok (.aload_n 0, 1) := by decide +kernel
theorem dX11_numberOf_1 : decode cX11_numberOf 1 = .ok (.ifnonnull 7, 3) := by decide +kernel
theorem dX11_numberOf_4 : decode cX11_numberOf 4 = .ok (.iconst (-1), 1) := by decide +kernel
theorem dX11_numberOf_5 : decode cX11_numberOf 5 = .ok (.goto 7, 3) := by decide +kernel
theorem dX11_numberOf_8 : decode cX11_numberOf 8 = .ok (.aload_n 0, 1) := by decide +kernel
theorem dX11_numberOf_9 : decode cX11_numberOf 9 = .ok (.getfield 133, 3) := by decide +kernel
theorem dX11_numberOf_12 : decode cX11_numberOf 12 = .ok (.ireturn, 1) := by decide +kernel
set_option maxHeartbeats 4000000 in
set_option maxRecDepth 100000 in
theorem T_X11_numberOf (l : Launch) (hl : l.stackTraces = false) (D : va_G) (cA : Nat → ClassId) {l0 : Option Nat} {x : HS} {Q : Int32 → HS → Prop} {X : String → HS → Prop} (h : w_X11_numberOf l0 x Q X) : YI l yX11_numberOf wsX11_numberOf 0 0 D cA [.q l0] x Q X := by
  refine YI.of (cc := cX11_numberOf) (maxL := 1) (ret := (some .int)) hl (by decide) rfl rfl (fun g B fr => ?_)
  have o := B.o
  have hb := B.hb
  have hts := B.hts
  have hown : g.s.vm.findClass RX11 = some g.m.cls := B.hown
  have in1 : ∀ w ∈ u_ws RX1 TX1 7, w ∈ wsX11_numberOf := fun w h => (List.mem_cons_of_mem _ (List.mem_append_right _ h))
  unfold w_X11_numberOf at h
  show KW g 1 0 [(0, .q l0)] [] x
  refine k_aload_n o hb dX11_numberOf_0 rfl 0 rfl ?_
  refine wJoin_elim (M := fun K => ∀ (v3 : Int32) (x2 : HS), K v3 x2 → KW g 1 12 [] [.i v3] x2) h ?_ (fun j1 hj1 h => ?_)
  · skip
    intro v3 x2 h
    exact k_iret o hb B.hr fr dX11_numberOf_12 h
  · skip
    refine k_ifnonnull (tgt := 8) o hb dX11_numberOf_1 (by decide) h (fun h => ?_) (fun h => ?_)
    · skip
      refine k_iconst (v := (-1)) o hb dX11_numberOf_4 (by decide) ?_
      refine k_goto (tgt := 12) o hb dX11_numberOf_5 (by decide) ?_
      exact KW.sub [] rfl (hj1 (-1) x h)
    · skip
      refine k_aload_n o hb dX11_numberOf_8 rfl 0 rfl ?_
      refine k_getI (C := RX1) (T := TX1) (N := 7) o hb hts in1 hown rfl (by decide) 4 (by decide) rfl (hts (.fieldLink RX11 133 "FactKeeper$Fact" "number" "I") (by decide +kernel)) (fun _ h9 => h9) dX11_numberOf_9 h (fun v4 h => ?_)
      exact KW.sub [] rfl (hj1 v4 x h)
theorem dX11_removeFirst_0 : decode cX11_removeFirst 0 = .ok (.aload_n 0, 1) := by decide +kernel
theorem dX11_removeFirst_1 : decode cX11_removeFirst 1 = .ok (.getfield 38, 3) := by decide +kernel
theorem dX11_removeFirst_4 : decode cX11_removeFirst 4 = .ok (.invokevirtual 154, 3) := by decide +kernel
theorem dX11_removeFirst_7 : decode cX11_removeFirst 7 = .ok (.astore_n 1, 1) := by decide +kernel
theorem dX11_removeFirst_8 : decode cX11_removeFirst 8 = .ok (.aload_n 1, 1) := by decide +kernel
theorem dX11_removeFirst_9 : decode cX11_removeFirst 9 = .ok (.ifnull 11, 3) := by decide +kernel
theorem dX11_removeFirst_12 : decode cX11_removeFirst 12 = .ok (.aload_n 0, 1) := by decide +kernel
theorem dX11_removeFirst_13 : decode cX11_removeFirst 13 = .ok (.getfield 20, 3) := by decide +kernel
theorem dX11_removeFirst_16 : decode cX11_removeFirst 16 = .ok (.aload_n 1, 1) := by decide +kernel
theorem dX11_removeFirst_17 : decode cX11_removeFirst 17 = .ok (.invokevirtual 319, 3) := by decide +kernel
theorem dX11_removeFirst_20 : decode cX11_removeFirst 20 = .ok (.aload_n 1, 1) := by decide +kernel
theorem dX11_removeFirst_21 : decode cX11_removeFirst 21 = .ok (.invokestatic 158, 3) := by decide +kernel
theorem dX11_removeFirst_24 : decode cX11_removeFirst 24 = .ok (.ireturn, 1) := by decide +kernel
theorem i9wsX11_removeFirst_0 : ∀ w ∈ wsX11_removeFirst_r1, w ∈ wsX11_removeFirst := fun _ h => (List.mem_cons_of_mem _ (List.mem_append_left _ (List.mem_append_left _ (List.mem_append_left _ (List.mem_append_left _ (List.mem_append_left _ (List.mem_append_left _ (List.mem_append_left _ (List.mem_append_left _ (List.mem_append_left _ h))))))))))
theorem i9wsX11_removeFirst_1 : ∀ w ∈ wsX11_removeFirst_r2, w ∈ wsX11_removeFirst := fun _ h => (List.mem_cons_of_mem _ (List.mem_append_left _ (List.mem_append_left _ (List.mem_append_left _ (List.mem_append_left _ (List.mem_append_left _ (List.mem_append_left _ (List.mem_append_left _ (List.mem_append_left _ (List.mem_append_right _ (List.mem_append_left _ h)))))))))))
theorem i9wsX11_removeFirst_2 : ∀ w ∈ wsX11_removeFirst_r3, w ∈ wsX11_removeFirst := fun _ h => (List.mem_cons_of_mem _ (List.mem_append_left _ (List.mem_append_left _ (List.mem_append_left _ (List.mem_append_left _ (List.mem_append_left _ (List.mem_append_left _ (List.mem_append_left _ (List.mem_append_left _ (List.mem_append_right _ (List.mem_append_right _ (List.mem_append_left _ h))))))))))))
theorem i9wsX11_removeFirst_5 : ∀ w ∈ wsX50, w ∈ wsX11_removeFirst := fun _ h => (List.mem_cons_of_mem _ (List.mem_append_left _ (List.mem_append_left _ (List.mem_append_left _ (List.mem_append_left _ (List.mem_append_left _ (List.mem_append_left _ (List.mem_append_right _ h))))))))
theorem i9wsX11_removeFirst_6 : ∀ w ∈ wsX10, w ∈ wsX11_removeFirst := fun _ h => (List.mem_cons_of_mem _ (List.mem_append_left _ (List.mem_append_left _ (List.mem_append_left _ (List.mem_append_left _ (List.mem_append_left _ (List.mem_append_right _ h)))))))
theorem i9wsX11_removeFirst_7 : ∀ w ∈ wsX100, w ∈ wsX11_removeFirst := fun _ h => (List.mem_cons_of_mem _ (List.mem_append_left _ (List.mem_append_left _ (List.mem_append_left _ (List.mem_append_left _ (List.mem_append_right _ h))))))
theorem i9wsX11_removeFirst_8 : ∀ w ∈ wsX00, w ∈ wsX11_removeFirst := fun _ h => (List.mem_cons_of_mem _ (List.mem_append_left _ (List.mem_append_left _ (List.mem_append_left _ (List.mem_append_right _ h)))))
theorem i9wsX11_removeFirst_9 : ∀ w ∈ wsX40, w ∈ wsX11_removeFirst := fun _ h => (List.mem_cons_of_mem _ (List.mem_append_left _ (List.mem_append_left _ (List.mem_append_right _ h))))
set_option maxRecDepth 20000 in
theorem ggX11_removeFirst_X5_advance : GoodIn wsX11_removeFirst wsX5_advance := (gin_c (mem_at i9wsX11_removeFirst_0 6 rfl) rfl (goodIn_app (goodIn_app (goodIn_app (goodIn_app (goodIn_app (goodIn_app (gin_c (mem_at i9wsX11_removeFirst_0 7 rfl) rfl (gin_c (mem_at i9wsX11_removeFirst_0 8 rfl) rfl (gin_c (mem_at i9wsX11_removeFirst_0 9 rfl) rfl (gin_c (mem_at i9wsX11_removeFirst_0 10 rfl) rfl (gin_c (mem_at i9wsX11_removeFirst_0 11 rfl) rfl (gin_c (mem_at i9wsX11_removeFirst_0 12 rfl) rfl (gin_c (mem_at i9wsX11_removeFirst_0 13 rfl) rfl (gin_c (mem_at i9wsX11_removeFirst_0 14 rfl) rfl (gin_c (mem_at i9wsX11_removeFirst_0 15 rfl) rfl (gin_c (mem_at i9wsX11_removeFirst_0 16 rfl) rfl (gin_c (mem_at i9wsX11_removeFirst_0 17 rfl) rfl (gin_c (mem_at i9wsX11_removeFirst_0 18 rfl) rfl (gin_c (mem_at i9wsX11_removeFirst_0 19 rfl) rfl (gin_c (mem_at i9wsX11_removeFirst_0 20 rfl) rfl (gin_c (mem_at i9wsX11_removeFirst_0 21 rfl) rfl (gin_c (mem_at i9wsX11_removeFirst_0 22 rfl) rfl (gin_c (mem_at i9wsX11_removeFirst_0 23 rfl) rfl (gin_c (mem_at i9wsX11_removeFirst_1 0 rfl) rfl (gin_c (mem_at i9wsX11_removeFirst_1 1 rfl) rfl (gin_c (mem_at i9wsX11_removeFirst_1 2 rfl) rfl (gin_c (mem_at i9wsX11_removeFirst_1 3 rfl) rfl (gin_c (mem_at i9wsX11_removeFirst_1 4 rfl) rfl (gin_c (mem_at i9wsX11_removeFirst_1 5 rfl) rfl (gin_c (mem_at i9wsX11_removeFirst_1 6 rfl) rfl gin_n)))))))))))))))))))))))) (gin_c (mem_at i9wsX11_removeFirst_1 7 rfl) rfl (gin_c (mem_at i9wsX11_removeFirst_1 8 rfl) rfl (gin_c (mem_at i9wsX11_removeFirst_1 9 rfl) rfl (gin_c (mem_at i9wsX11_removeFirst_1 10 rfl) rfl (gin_c (mem_at i9wsX11_removeFirst_1 11 rfl) rfl (gin_c (mem_at i9wsX11_removeFirst_1 12 rfl) rfl (gin_c (mem_at i9wsX11_removeFirst_1 13 rfl) rfl (gin_c (mem_at i9wsX11_removeFirst_1 14 rfl) rfl (gin_c (mem_at i9wsX11_removeFirst_1 15 rfl) rfl (gin_c (mem_at i9wsX11_removeFirst_1 16 rfl) rfl (gin_c (mem_at i9wsX11_removeFirst_1 17 rfl) rfl (gin_c (mem_at i9wsX11_removeFirst_1 18 rfl) rfl (gin_c (mem_at i9wsX11_removeFirst_1 19 rfl) rfl (gin_c (mem_at i9wsX11_removeFirst_1 20 rfl) rfl (gin_c (mem_at i9wsX11_removeFirst_1 21 rfl) rfl (gin_c (mem_at i9wsX11_removeFirst_1 22 rfl) rfl (gin_c (mem_at i9wsX11_removeFirst_1 23 rfl) rfl (gin_c (mem_at i9wsX11_removeFirst_2 0 rfl) rfl (gin_c (mem_at i9wsX11_removeFirst_2 1 rfl) rfl (gin_c (mem_at i9wsX11_removeFirst_2 2 rfl) rfl (gin_c (mem_at i9wsX11_removeFirst_2 3 rfl) rfl gin_n)))))))))))))))))))))) (goodIn_sub i9wsX11_removeFirst_5 g9_10)) (goodIn_sub i9wsX11_removeFirst_6 g9_0)) (goodIn_sub i9wsX11_removeFirst_7 g9_3)) (goodIn_sub i9wsX11_removeFirst_8 g9_1)) (goodIn_sub i9wsX11_removeFirst_9 g9_2)))
set_option maxRecDepth 20000 in
theorem gX11_removeFirst_X5_advance : GoodIn wsX11_removeFirst (wsV RX11 154 RX5 yX5_advance wsX5_advance) := goodIn_app (gin_c (mem_at i9wsX11_removeFirst_0 2 rfl) rfl (gin_c (mem_at i9wsX11_removeFirst_0 3 rfl) rfl (gin_c (mem_at i9wsX11_removeFirst_0 4 rfl) rfl (gin_c (mem_at i9wsX11_removeFirst_0 5 rfl) rfl gin_n)))) ggX11_removeFirst_X5_advance
theorem i9wsX11_removeFirst_10 : ∀ w ∈ wsX90, w ∈ wsX11_removeFirst := fun _ h => (List.mem_cons_of_mem _ (List.mem_append_left _ (List.mem_append_right _ h)))
theorem i9wsX11_removeFirst_11 : ∀ w ∈ wsX30, w ∈ wsX11_removeFirst := fun _ h => (List.mem_cons_of_mem _ (List.mem_append_right _ h))
set_option maxRecDepth 20000 in
theorem ggX11_removeFirst_X9_go : GoodIn wsX11_removeFirst wsX9_go := (gin_c (mem_at i9wsX11_removeFirst_2 8 rfl) rfl (goodIn_app (goodIn_app (goodIn_app (gin_c (mem_at i9wsX11_removeFirst_2 9 rfl) rfl (gin_c (mem_at i9wsX11_removeFirst_2 10 rfl) rfl (gin_c (mem_at i9wsX11_removeFirst_2 11 rfl) rfl (gin_c (mem_at i9wsX11_removeFirst_2 12 rfl) rfl (gin_c (mem_at i9wsX11_removeFirst_2 13 rfl) rfl (gin_c (mem_at i9wsX11_removeFirst_2 14 rfl) rfl (gin_c (mem_at i9wsX11_removeFirst_2 15 rfl) rfl (gin_c (mem_at i9wsX11_removeFirst_2 16 rfl) rfl (gin_c (mem_at i9wsX11_removeFirst_2 17 rfl) rfl (gin_c (mem_at i9wsX11_removeFirst_2 18 rfl) rfl (gin_c (mem_at i9wsX11_removeFirst_2 19 rfl) rfl (gin_c (mem_at i9wsX11_removeFirst_2 20 rfl) rfl gin_n)))))))))))) (goodIn_sub i9wsX11_removeFirst_10 g9_5)) (goodIn_sub i9wsX11_removeFirst_6 g9_0)) (goodIn_sub i9wsX11_removeFirst_11 g9_4)))
set_option maxRecDepth 20000 in
theorem gX11_removeFirst_X9_go : GoodIn wsX11_removeFirst (wsV RX11 319 RX9 yX9_go wsX9_go) := goodIn_app (gin_c (mem_at i9wsX11_removeFirst_2 4 rfl) rfl (gin_c (mem_at i9wsX11_removeFirst_2 5 rfl) rfl (gin_c (mem_at i9wsX11_removeFirst_2 6 rfl) rfl (gin_c (mem_at i9wsX11_removeFirst_2 7 rfl) rfl gin_n)))) ggX11_removeFirst_X9_go
theorem i9wsX11_removeFirst_3 : ∀ w ∈ wsX11_removeFirst_r4, w ∈ wsX11_removeFirst := fun _ h => (List.mem_cons_of_mem _ (List.mem_append_left _ (List.mem_append_left _ (List.mem_append_left _ (List.mem_append_left _ (List.mem_append_left _ (List.mem_append_left _ (List.mem_append_left _ (List.mem_append_left _ (List.mem_append_right _ (List.mem_append_right _ (List.mem_append_right _ h))))))))))))
set_option maxRecDepth 20000 in
theorem ggX11_removeFirst_X11_numberOf : GoodIn wsX11_removeFirst wsX11_numberOf := (gin_c (mem_at i9wsX11_removeFirst_2 23 rfl) rfl (goodIn_app (gin_c (mem_at i9wsX11_removeFirst_3 0 rfl) rfl gin_n) (goodIn_sub i9wsX11_removeFirst_6 g9_0)))
set_option maxRecDepth 20000 in
theorem gX11_removeFirst_X11_numberOf : GoodIn wsX11_removeFirst (va_wsS RX11 158 yX11_numberOf wsX11_numberOf) := goodIn_app (gin_c (mem_at i9wsX11_removeFirst_2 21 rfl) rfl (gin_c (mem_at i9wsX11_removeFirst_2 22 rfl) rfl (gin_c (mem_at i9wsX11_removeFirst_1 0 rfl) rfl gin_n))) ggX11_removeFirst_X11_numberOf
set_option maxHeartbeats 4000000 in
set_option maxRecDepth 100000 in
theorem T_X11_removeFirst (l : Launch) (hl : l.stackTraces = false) (D : va_G) (cA : Nat → ClassId) {l0 : Option Nat} {x : HS} {Q : Int32 → HS → Prop} {X : String → HS → Prop} (h : w_X11_removeFirst l0 x Q X) : YI l yX11_removeFirst wsX11_removeFirst 3 67 D cA [.q l0] x Q X := by
  refine YI.of (cc := cX11_removeFirst) (maxL := 2) (ret := (some .int)) hl (by decide) rfl rfl (fun g B fr => ?_)
  have o := B.o
  have hb := B.hb
  have hts := B.hts
  have hown : g.s.vm.findClass RX11 = some g.m.cls := B.hown
  have in11 : ∀ w ∈ u_ws RX11 TX11 12, w ∈ wsX11_removeFirst := fun w h => (List.mem_cons_of_mem _ (List.mem_append_left _ (List.mem_append_left _ (List.mem_append_left _ (List.mem_append_left _ (List.mem_append_left _ (List.mem_append_left _ (List.mem_append_left _ (List.mem_append_right _ h)))))))))
  unfold w_X11_removeFirst at h
  show KW g 2 0 [(0, .q l0)] [] x
  refine k_aload_n o hb dX11_removeFirst_0 rfl 0 rfl ?_
  refine k_getF (C := RX11) (T := TX11) (N := 12) o hb hts in11 hown rfl (by decide) 6 (by decide) rfl (hts (.fieldLink RX11 38 "FactKeeper" "look" "LFactKeeper$Look;") (by decide +kernel)) (fun _ h9 => h9) dX11_removeFirst_1 h (fun v1 h => ?_)
  refine k_run_q o (fun _ _ q => q) (k_runV (ci := 5) (rc := (RX5, TX5, 8)) o hb B.hml hown hts rfl (by decide) (T_X5_advance g.l o.hl g.D g.cA h.2) (cwV 0 hts gX11_removeFirst_X5_advance rfl rfl rfl (by decide +kernel) ⟨yle B.hR1 rfl, yle B.hR2 rfl⟩) h.1 rfl rfl (Nat.le_of_ble_eq_true rfl) dX11_removeFirst_4) (fun v3 x2 h => ?_)
  refine k_astore_n o hb dX11_removeFirst_7 rfl rfl ?_
  refine k_aload_n o hb dX11_removeFirst_8 rfl 0 rfl ?_
  refine wJoin_elim (M := fun K => ∀  (x5 : HS), K  x5 → KW g 2 20 [(1, .q v3)] [] x5) h ?_ (fun j4 hj4 h => ?_)
  · skip
    intro  x5 h
    refine k_aload_n o hb dX11_removeFirst_20 rfl 0 rfl ?_
    refine k_run_i o (fun _ _ q => q) (k_runS o hb B.hml hown hts (T_X11_numberOf g.l o.hl g.D g.cA h) (va_cwS 1 hts gX11_removeFirst_X11_numberOf rfl rfl rfl (by decide +kernel) ⟨yle B.hR1 rfl, yle B.hR2 rfl⟩) rfl rfl (Nat.le_of_ble_eq_true rfl) dX11_removeFirst_21) (fun v7 x6 h => ?_)
    exact k_iret o hb B.hr fr dX11_removeFirst_24 h
  · skip
    refine k_ifnull (tgt := 20) o hb dX11_removeFirst_9 (by decide) h (fun h => ?_) (fun h => ?_)
    · skip
      exact KW.sub [0] rfl (hj4 x2 h)
    · skip
      refine k_aload_n o hb dX11_removeFirst_12 rfl 1 rfl ?_
      refine k_getF (C := RX11) (T := TX11) (N := 12) o hb hts in11 hown rfl (by decide) 2 (by decide) rfl (hts (.fieldLink RX11 20 "FactKeeper" "store" "LFactKeeper$Store;") (by decide +kernel)) (fun _ h9 => h9) dX11_removeFirst_13 h (fun v8 h => ?_)
      refine k_aload_n o hb dX11_removeFirst_16 rfl 0 rfl ?_
      refine k_run_v o (fun _ _ q => q) (k_runV (ci := 9) (rc := (RX9, TX9, 8)) o hb B.hml hown hts rfl (by decide) (T_X9_go g.l o.hl g.D g.cA h.2) (cwV 1 hts gX11_removeFirst_X9_go rfl rfl rfl (by decide +kernel) ⟨yle B.hR1 rfl, yle B.hR2 rfl⟩) h.1 rfl rfl (Nat.le_of_ble_eq_true rfl) dX11_removeFirst_17) (fun x9 h => ?_)
      exact KW.sub [0] rfl (hj4 x9 h)
theorem dX11_removeAll_0 : decode cX11_removeAll 0 = .ok (.iconst 0, 1) := by decide +kernel
theorem dX11_removeAll_1 : decode cX11_removeAll 1 = .ok (.istore_n 1, 1) := by decide +kernel
theorem dX11_removeAll_2 : decode cX11_removeAll 2 = .ok (.iload_n 1, 1) := by decide +kernel
theorem dX11_removeAll_3 : decode cX11_removeAll 3 = .ok (.sipush 3000, 3) := by decide +kernel
theorem dX11_removeAll_6 : decode cX11_removeAll 6 = .ok (.if_icmp .ge 32, 3) := by decide +kernel
theorem dX11_removeAll_9 : decode cX11_removeAll 9 = .ok (.aload_n 0, 1) := by decide +kernel
theorem dX11_removeAll_10 : decode cX11_removeAll 10 = .ok (.getfield 38, 3) := by decide +kernel
theorem dX11_removeAll_13 : decode cX11_removeAll 13 = .ok (.invokevirtual 154, 3) := by decide +kernel
theorem dX11_removeAll_16 : decode cX11_removeAll 16 = .ok (.astore_n 2, 1) := by decide +kernel
theorem dX11_removeAll_17 : decode cX11_removeAll 17 = .ok (.aload_n 2, 1) := by decide +kernel
theorem dX11_removeAll_18 : decode cX11_removeAll 18 = .ok (.ifnonnull 6, 3) := by decide +kernel
theorem dX11_removeAll_21 : decode cX11_removeAll 21 = .ok (.goto 17, 3) := by decide +kernel
theorem dX11_removeAll_24 : decode cX11_removeAll 24 = .ok (.aload_n 0, 1) := by decide +kernel
theorem dX11_removeAll_25 : decode cX11_removeAll 25 = .ok (.getfield 20, 3) := by decide +kernel
theorem dX11_removeAll_28 : decode cX11_removeAll 28 = .ok (.aload_n 2, 1) := by decide +kernel
theorem dX11_removeAll_29 : decode cX11_removeAll 29 = .ok (.invokevirtual 319, 3) := by decide +kernel
theorem dX11_removeAll_32 : decode cX11_removeAll 32 = .ok (.iinc 1 1, 3) := by decide +kernel
theorem dX11_removeAll_35 : decode cX11_removeAll 35 = .ok (.goto (-33), 3) := by decide +kernel
theorem dX11_removeAll_38 : decode cX11_removeAll 38 = .ok (.iload_n 1, 1) := by decide +kernel
theorem dX11_removeAll_39 : decode cX11_removeAll 39 = .ok (.ireturn, 1) := by decide +kernel
theorem i9wsX11_removeAll_0 : ∀ w ∈ wsX11_removeAll_r1, w ∈ wsX11_removeAll := fun _ h => (List.mem_cons_of_mem _ (List.mem_append_left _ (List.mem_append_left _ (List.mem_append_left _ (List.mem_append_left _ (List.mem_append_left _ (List.mem_append_left _ (List.mem_append_left _ (List.mem_append_left _ (List.mem_append_left _ h))))))))))
theorem i9wsX11_removeAll_1 : ∀ w ∈ wsX11_removeAll_r2, w ∈ wsX11_removeAll := fun _ h => (List.mem_cons_of_mem _ (List.mem_append_left _ (List.mem_append_left _ (List.mem_append_left _ (List.mem_append_left _ (List.mem_append_left _ (List.mem_append_left _ (List.mem_append_left _ (List.mem_append_left _ (List.mem_append_right _ (List.mem_append_left _ h)))))))))))
theorem i9wsX11_removeAll_2 : ∀ w ∈ wsX11_removeAll_r3, w ∈ wsX11_removeAll := fun _ h => (List.mem_cons_of_mem _ (List.mem_append_left _ (List.mem_append_left _ (List.mem_append_left _ (List.mem_append_left _ (List.mem_append_left _ (List.mem_append_left _ (List.mem_append_left _ (List.mem_append_left _ (List.mem_append_right _ (List.mem_append_right _ h)))))))))))
theorem i9wsX11_removeAll_4 : ∀ w ∈ wsX50, w ∈ wsX11_removeAll := fun _ h => (List.mem_cons_of_mem _ (List.mem_append_left _ (List.mem_append_left _ (List.mem_append_left _ (List.mem_append_left _ (List.mem_append_left _ (List.mem_append_left _ (List.mem_append_right _ h))))))))
theorem i9wsX11_removeAll_5 : ∀ w ∈ wsX10, w ∈ wsX11_removeAll := fun _ h => (List.mem_cons_of_mem _ (List.mem_append_left _ (List.mem_append_left _ (List.mem_append_left _ (List.mem_append_left _ (List.mem_append_left _ (List.mem_append_right _ h)))))))
theorem i9wsX11_removeAll_6 : ∀ w ∈ wsX100, w ∈ wsX11_removeAll := fun _ h => (List.mem_cons_of_mem _ (List.mem_append_left _ (List.mem_append_left _ (List.mem_append_left _ (List.mem_append_left _ (List.mem_append_right _ h))))))
theorem i9wsX11_removeAll_7 : ∀ w ∈ wsX00, w ∈ wsX11_removeAll := fun _ h => (List.mem_cons_of_mem _ (List.mem_append_left _ (List.mem_append_left _ (List.mem_append_left _ (List.mem_append_right _ h)))))
theorem i9wsX11_removeAll_8 : ∀ w ∈ wsX40, w ∈ wsX11_removeAll := fun _ h => (List.mem_cons_of_mem _ (List.mem_append_left _ (List.mem_append_left _ (List.mem_append_right _ h))))
set_option maxRecDepth 20000 in
theorem ggX11_removeAll_X5_advance : GoodIn wsX11_removeAll wsX5_advance := (gin_c (mem_at i9wsX11_removeAll_0 6 rfl) rfl (goodIn_app (goodIn_app (goodIn_app (goodIn_app (goodIn_app (goodIn_app (gin_c (mem_at i9wsX11_removeAll_0 7 rfl) rfl (gin_c (mem_at i9wsX11_removeAll_0 8 rfl) rfl (gin_c (mem_at i9wsX11_removeAll_0 9 rfl) rfl (gin_c (mem_at i9wsX11_removeAll_0 10 rfl) rfl (gin_c (mem_at i9wsX11_removeAll_0 11 rfl) rfl (gin_c (mem_at i9wsX11_removeAll_0 12 rfl) rfl (gin_c (mem_at i9wsX11_removeAll_0 13 rfl) rfl (gin_c (mem_at i9wsX11_removeAll_0 14 rfl) rfl (gin_c (mem_at i9wsX11_removeAll_0 15 rfl) rfl (gin_c (mem_at i9wsX11_removeAll_0 16 rfl) rfl (gin_c (mem_at i9wsX11_removeAll_0 17 rfl) rfl (gin_c (mem_at i9wsX11_removeAll_0 18 rfl) rfl (gin_c (mem_at i9wsX11_removeAll_0 19 rfl) rfl (gin_c (mem_at i9wsX11_removeAll_0 20 rfl) rfl (gin_c (mem_at i9wsX11_removeAll_0 21 rfl) rfl (gin_c (mem_at i9wsX11_removeAll_0 22 rfl) rfl (gin_c (mem_at i9wsX11_removeAll_0 23 rfl) rfl (gin_c (mem_at i9wsX11_removeAll_1 0 rfl) rfl (gin_c (mem_at i9wsX11_removeAll_1 1 rfl) rfl (gin_c (mem_at i9wsX11_removeAll_1 2 rfl) rfl (gin_c (mem_at i9wsX11_removeAll_1 3 rfl) rfl (gin_c (mem_at i9wsX11_removeAll_1 4 rfl) rfl (gin_c (mem_at i9wsX11_removeAll_1 5 rfl) rfl (gin_c (mem_at i9wsX11_removeAll_1 6 rfl) rfl gin_n)))))))))))))))))))))))) (gin_c (mem_at i9wsX11_removeAll_1 7 rfl) rfl (gin_c (mem_at i9wsX11_removeAll_1 8 rfl) rfl (gin_c (mem_at i9wsX11_removeAll_1 9 rfl) rfl (gin_c (mem_at i9wsX11_removeAll_1 10 rfl) rfl (gin_c (mem_at i9wsX11_removeAll_1 11 rfl) rfl (gin_c (mem_at i9wsX11_removeAll_1 12 rfl) rfl (gin_c (mem_at i9wsX11_removeAll_1 13 rfl) rfl (gin_c (mem_at i9wsX11_removeAll_1 14 rfl) rfl (gin_c (mem_at i9wsX11_removeAll_1 15 rfl) rfl (gin_c (mem_at i9wsX11_removeAll_1 16 rfl) rfl (gin_c (mem_at i9wsX11_removeAll_1 17 rfl) rfl (gin_c (mem_at i9wsX11_removeAll_1 18 rfl) rfl (gin_c (mem_at i9wsX11_removeAll_1 19 rfl) rfl (gin_c (mem_at i9wsX11_removeAll_1 20 rfl) rfl (gin_c (mem_at i9wsX11_removeAll_1 21 rfl) rfl (gin_c (mem_at i9wsX11_removeAll_1 22 rfl) rfl (gin_c (mem_at i9wsX11_removeAll_1 23 rfl) rfl (gin_c (mem_at i9wsX11_removeAll_2 0 rfl) rfl (gin_c (mem_at i9wsX11_removeAll_2 1 rfl) rfl (gin_c (mem_at i9wsX11_removeAll_2 2 rfl) rfl (gin_c (mem_at i9wsX11_removeAll_2 3 rfl) rfl gin_n)))))))))))))))))))))) (goodIn_sub i9wsX11_removeAll_4 g9_10)) (goodIn_sub i9wsX11_removeAll_5 g9_0)) (goodIn_sub i9wsX11_removeAll_6 g9_3)) (goodIn_sub i9wsX11_removeAll_7 g9_1)) (goodIn_sub i9wsX11_removeAll_8 g9_2)))
set_option maxRecDepth 20000 in
theorem gX11_removeAll_X5_advance : GoodIn wsX11_removeAll (wsV RX11 154 RX5 yX5_advance wsX5_advance) := goodIn_app (gin_c (mem_at i9wsX11_removeAll_0 2 rfl) rfl (gin_c (mem_at i9wsX11_removeAll_0 3 rfl) rfl (gin_c (mem_at i9wsX11_removeAll_0 4 rfl) rfl (gin_c (mem_at i9wsX11_removeAll_0 5 rfl) rfl gin_n)))) ggX11_removeAll_X5_advance
theorem i9wsX11_removeAll_9 : ∀ w ∈ wsX90, w ∈ wsX11_removeAll := fun _ h => (List.mem_cons_of_mem _ (List.mem_append_left _ (List.mem_append_right _ h)))
theorem i9wsX11_removeAll_10 : ∀ w ∈ wsX30, w ∈ wsX11_removeAll := fun _ h => (List.mem_cons_of_mem _ (List.mem_append_right _ h))
set_option maxRecDepth 20000 in
theorem ggX11_removeAll_X9_go : GoodIn wsX11_removeAll wsX9_go := (gin_c (mem_at i9wsX11_removeAll_2 8 rfl) rfl (goodIn_app (goodIn_app (goodIn_app (gin_c (mem_at i9wsX11_removeAll_2 9 rfl) rfl (gin_c (mem_at i9wsX11_removeAll_2 10 rfl) rfl (gin_c (mem_at i9wsX11_removeAll_2 11 rfl) rfl (gin_c (mem_at i9wsX11_removeAll_2 12 rfl) rfl (gin_c (mem_at i9wsX11_removeAll_2 13 rfl) rfl (gin_c (mem_at i9wsX11_removeAll_2 14 rfl) rfl (gin_c (mem_at i9wsX11_removeAll_2 15 rfl) rfl (gin_c (mem_at i9wsX11_removeAll_2 16 rfl) rfl (gin_c (mem_at i9wsX11_removeAll_2 17 rfl) rfl (gin_c (mem_at i9wsX11_removeAll_2 18 rfl) rfl (gin_c (mem_at i9wsX11_removeAll_2 19 rfl) rfl (gin_c (mem_at i9wsX11_removeAll_2 20 rfl) rfl gin_n)))))))))))) (goodIn_sub i9wsX11_removeAll_9 g9_5)) (goodIn_sub i9wsX11_removeAll_5 g9_0)) (goodIn_sub i9wsX11_removeAll_10 g9_4)))
set_option maxRecDepth 20000 in
theorem gX11_removeAll_X9_go : GoodIn wsX11_removeAll (wsV RX11 319 RX9 yX9_go wsX9_go) := goodIn_app (gin_c (mem_at i9wsX11_removeAll_2 4 rfl) rfl (gin_c (mem_at i9wsX11_removeAll_2 5 rfl) rfl (gin_c (mem_at i9wsX11_removeAll_2 6 rfl) rfl (gin_c (mem_at i9wsX11_removeAll_2 7 rfl) rfl gin_n)))) ggX11_removeAll_X9_go
set_option maxHeartbeats 4000000 in
set_option maxRecDepth 100000 in
theorem T_X11_removeAll (l : Launch) (hl : l.stackTraces = false) (D : va_G) (cA : Nat → ClassId) {l0 : Option Nat} {x : HS} {Q : Int32 → HS → Prop} {X : String → HS → Prop} (h : w_X11_removeAll l0 x Q X) : YI l yX11_removeAll wsX11_removeAll 3 67 D cA [.q l0] x Q X := by
  refine YI.of (cc := cX11_removeAll) (maxL := 3) (ret := (some .int)) hl (by decide) rfl rfl (fun g B fr => ?_)
  have o := B.o
  have hb := B.hb
  have hts := B.hts
  have hown : g.s.vm.findClass RX11 = some g.m.cls := B.hown
  have in11 : ∀ w ∈ u_ws RX11 TX11 12, w ∈ wsX11_removeAll := fun w h => (List.mem_cons_of_mem _ (List.mem_append_left _ (List.mem_append_left _ (List.mem_append_left _ (List.mem_append_left _ (List.mem_append_left _ (List.mem_append_left _ (List.mem_append_left _ (List.mem_append_right _ h)))))))))
  unfold w_X11_removeAll at h
  show KW g 3 0 [(0, .q l0)] [] x
  refine k_iconst (v := 0) o hb dX11_removeAll_0 (by decide) ?_
  refine k_istore_n o hb dX11_removeAll_1 rfl rfl ?_
  refine KW.sub [1, 0] rfl ?_
  refine wLoop_elim (M := fun (v4 : Int32) (x3 : HS) => KW g 3 2 [(0, .q l0), (1, .i v4)] [] x3) h ?_
  intro v4 x3 again1 ih2 h
  refine k_iload_n o hb dX11_removeAll_2 rfl 1 rfl ?_
  refine k_sipush (v := 3000) o hb dX11_removeAll_3 (by decide) ?_
  refine wJoin_elim (M := fun K => ∀  (x6 : HS), K  x6 → KW g 3 38 [(1, .i v4)] [] x6) h ?_ (fun j5 hj5 h => ?_)
  · skip
    intro  x6 h
    refine k_iload_n o hb dX11_removeAll_38 rfl 0 rfl ?_
    exact k_iret o hb B.hr fr dX11_removeAll_39 h
  · skip
    refine k_icmp_ge (tgt := 38) o hb dX11_removeAll_6 (by decide) h (fun h => ?_) (fun h => ?_)
    · skip
      exact KW.sub [1] rfl (hj5 x3 h)
    · skip
      refine k_aload_n o hb dX11_removeAll_9 rfl 0 rfl ?_
      refine k_getF (C := RX11) (T := TX11) (N := 12) o hb hts in11 hown rfl (by decide) 6 (by decide) rfl (hts (.fieldLink RX11 38 "FactKeeper" "look" "LFactKeeper$Look;") (by decide +kernel)) (fun _ h9 => h9) dX11_removeAll_10 h (fun v7 h => ?_)
      refine k_run_q o (fun _ _ q => q) (k_runV (ci := 5) (rc := (RX5, TX5, 8)) o hb B.hml hown hts rfl (by decide) (T_X5_advance g.l o.hl g.D g.cA h.2) (cwV 0 hts gX11_removeAll_X5_advance rfl rfl rfl (by decide +kernel) ⟨yle B.hR1 rfl, yle B.hR2 rfl⟩) h.1 rfl rfl (Nat.le_of_ble_eq_true rfl) dX11_removeAll_13) (fun v9 x8 h => ?_)
      refine k_astore_n o hb dX11_removeAll_16 rfl rfl ?_
      refine k_aload_n o hb dX11_removeAll_17 rfl 0 rfl ?_
      refine k_ifnonnull (tgt := 24) o hb dX11_removeAll_18 (by decide) h (fun h => ?_) (fun h => ?_)
      · skip
        refine k_goto (tgt := 38) o hb dX11_removeAll_21 (by decide) ?_
        exact KW.sub [2] rfl (hj5 x8 h)
      · skip
        refine k_aload_n o hb dX11_removeAll_24 rfl 1 rfl ?_
        refine k_getF (C := RX11) (T := TX11) (N := 12) o hb hts in11 hown rfl (by decide) 2 (by decide) rfl (hts (.fieldLink RX11 20 "FactKeeper" "store" "LFactKeeper$Store;") (by decide +kernel)) (fun _ h9 => h9) dX11_removeAll_25 h (fun v10 h => ?_)
        refine k_aload_n o hb dX11_removeAll_28 rfl 0 rfl ?_
        refine k_run_v o (fun _ _ q => q) (k_runV (ci := 9) (rc := (RX9, TX9, 8)) o hb B.hml hown hts rfl (by decide) (T_X9_go g.l o.hl g.D g.cA h.2) (cwV 1 hts gX11_removeAll_X9_go rfl rfl rfl (by decide +kernel) ⟨yle B.hR1 rfl, yle B.hR2 rfl⟩) h.1 rfl rfl (Nat.le_of_ble_eq_true rfl) dX11_removeAll_29) (fun x11 h => ?_)
        refine k_iinc (w := 1) o hb dX11_removeAll_32 2 rfl (by decide) rfl ?_
        refine k_goto (tgt := 2) o hb dX11_removeAll_35 (by decide) ?_
        exact KW.sub [2, 0] rfl (ih2 (v4 + 1) x11 h)
theorem dX11_remove_0 : decode cX11_remove 0 = .ok (.iload_n 3, 1) := by decide +kernel
theorem dX11_remove_1 : decode cX11_remove 1 = .ok (.iconst 0, 1) := by decide +kernel
theorem dX11_remove_2 : decode cX11_remove 2 = .ok (.iconst 1, 1) := by decide +kernel
theorem dX11_remove_3 : decode cX11_remove 3 = .ok (.invokestatic 71, 3) := by decide +kernel
theorem dX11_remove_6 : decode cX11_remove 6 = .ok (.aload_n 0, 1) := by decide +kernel
theorem dX11_remove_7 : decode cX11_remove 7 = .ok (.aload_n 0, 1) := by decide +kernel
theorem dX11_remove_8 : decode cX11_remove 8 = .ok (.getfield 38, 3) := by decide +kernel
theorem dX11_remove_11 : decode cX11_remove 11 = .ok (.iload_n 1, 1) := by decide +kernel
theorem dX11_remove_12 : decode cX11_remove 12 = .ok (.iload_n 2, 1) := by decide +kernel
theorem dX11_remove_13 : decode cX11_remove 13 = .ok (.iconst (-1), 1) := by decide +kernel
theorem dX11_remove_14 : decode cX11_remove 14 = .ok (.invokevirtual 138, 3) := by decide +kernel
theorem dX11_remove_17 : decode cX11_remove 17 = .ok (.iload_n 3, 1) := by decide +kernel
theorem dX11_remove_18 : decode cX11_remove 18 = .ok (.ifCond .ne 10, 3) := by decide +kernel
theorem dX11_remove_21 : decode cX11_remove 21 = .ok (.aload_n 0, 1) := by decide +kernel
theorem dX11_remove_22 : decode cX11_remove 22 = .ok (.invokevirtual 142, 3) := by decide +kernel
theorem dX11_remove_25 : decode cX11_remove 25 = .ok (.goto 7, 3) := by decide +kernel
theorem dX11_remove_28 : decode cX11_remove 28 = .ok (.aload_n 0, 1) := by decide +kernel
theorem dX11_remove_29 : decode cX11_remove 29 = .ok (.invokevirtual 145, 3) := by decide +kernel
theorem dX11_remove_32 : decode cX11_remove 32 = .ok (.istore 4, 2) := by decide +kernel
theorem dX11_remove_34 : decode cX11_remove 34 = .ok (.aload_n 0, 1) := by decide +kernel
theorem dX11_remove_35 : decode cX11_remove 35 = .ok (.aload_n 0, 1) := by decide +kernel
theorem dX11_remove_36 : decode cX11_remove 36 = .ok (.getfield 38, 3) := by decide +kernel
theorem dX11_remove_39 : decode cX11_remove 39 = .ok (.invokevirtual 148, 3) := by decide +kernel
theorem dX11_remove_42 : decode cX11_remove 42 = .ok (.putfield 151, 3) := by decide +kernel
theorem dX11_remove_45 : decode cX11_remove 45 = .ok (.iload 4, 2) := by decide +kernel
theorem dX11_remove_47 : decode cX11_remove 47 = .ok (.ireturn, 1) := by decide +kernel
theorem i9wsX11_remove_0 : ∀ w ∈ wsX11_remove_r1, w ∈ wsX11_remove := fun _ h => (List.mem_cons_of_mem _ (List.mem_append_left _ (List.mem_append_left _ (List.mem_append_left _ (List.mem_append_left _ (List.mem_append_left _ (List.mem_append_left _ (List.mem_append_left _ (List.mem_append_left _ (List.mem_append_left _ (List.mem_append_left _ (List.mem_append_left _ h))))))))))))
theorem i9wsX11_remove_14 : ∀ w ∈ ((vx_atS RX11 340 "java/lang/IllegalArgumentException" ["java/lang/RuntimeException", "java/lang/Exception"]).filter goodWord), w ∈ wsX11_remove := fun _ h => (List.mem_cons_of_mem _ (List.mem_append_left _ (List.mem_append_right _ h)))
set_option maxRecDepth 20000 in
theorem ggX11_remove_X11_requireRange : GoodIn wsX11_remove wsX11_requireRange := (gin_c (mem_at i9wsX11_remove_0 5 rfl) rfl (goodIn_app (gin_c (mem_at i9wsX11_remove_0 6 rfl) rfl (gin_c (mem_at i9wsX11_remove_0 7 rfl) rfl gin_n)) (goodIn_sub i9wsX11_remove_14 g9_14)))
set_option maxRecDepth 20000 in
theorem gX11_remove_X11_requireRange : GoodIn wsX11_remove (va_wsS RX11 71 yX11_requireRange wsX11_requireRange) := goodIn_app (gin_c (mem_at i9wsX11_remove_0 2 rfl) rfl (gin_c (mem_at i9wsX11_remove_0 3 rfl) rfl (gin_c (mem_at i9wsX11_remove_0 4 rfl) rfl gin_n))) ggX11_remove_X11_requireRange
theorem i9wsX11_remove_1 : ∀ w ∈ wsX11_remove_r2, w ∈ wsX11_remove := fun _ h => (List.mem_cons_of_mem _ (List.mem_append_left _ (List.mem_append_left _ (List.mem_append_left _ (List.mem_append_left _ (List.mem_append_left _ (List.mem_append_left _ (List.mem_append_left _ (List.mem_append_left _ (List.mem_append_left _ (List.mem_append_left _ (List.mem_append_right _ (List.mem_append_left _ h)))))))))))))
theorem i9wsX11_remove_2 : ∀ w ∈ wsX11_remove_r3, w ∈ wsX11_remove := fun _ h => (List.mem_cons_of_mem _ (List.mem_append_left _ (List.mem_append_left _ (List.mem_append_left _ (List.mem_append_left _ (List.mem_append_left _ (List.mem_append_left _ (List.mem_append_left _ (List.mem_append_left _ (List.mem_append_left _ (List.mem_append_left _ (List.mem_append_right _ (List.mem_append_right _ (List.mem_append_left _ h))))))))))))))
theorem i9wsX11_remove_6 : ∀ w ∈ wsX110, w ∈ wsX11_remove := fun _ h => (List.mem_cons_of_mem _ (List.mem_append_left _ (List.mem_append_left _ (List.mem_append_left _ (List.mem_append_left _ (List.mem_append_left _ (List.mem_append_left _ (List.mem_append_left _ (List.mem_append_left _ (List.mem_append_left _ (List.mem_append_right _ h)))))))))))
theorem i9wsX11_remove_7 : ∀ w ∈ wsX90, w ∈ wsX11_remove := fun _ h => (List.mem_cons_of_mem _ (List.mem_append_left _ (List.mem_append_left _ (List.mem_append_left _ (List.mem_append_left _ (List.mem_append_left _ (List.mem_append_left _ (List.mem_append_left _ (List.mem_append_left _ (List.mem_append_right _ h))))))))))
theorem i9wsX11_remove_8 : ∀ w ∈ wsX50, w ∈ wsX11_remove := fun _ h => (List.mem_cons_of_mem _ (List.mem_append_left _ (List.mem_append_left _ (List.mem_append_left _ (List.mem_append_left _ (List.mem_append_left _ (List.mem_append_left _ (List.mem_append_left _ (List.mem_append_right _ h)))))))))
theorem i9wsX11_remove_9 : ∀ w ∈ wsX100, w ∈ wsX11_remove := fun _ h => (List.mem_cons_of_mem _ (List.mem_append_left _ (List.mem_append_left _ (List.mem_append_left _ (List.mem_append_left _ (List.mem_append_left _ (List.mem_append_left _ (List.mem_append_right _ h))))))))
theorem i9wsX11_remove_15 : ∀ w ∈ ((tn_at RX11 184 "java/util/NoSuchElementException").filter goodWord), w ∈ wsX11_remove := fun _ h => (List.mem_cons_of_mem _ (List.mem_append_right _ h))
set_option maxRecDepth 20000 in
theorem ggX11_remove_X11_beginLook : GoodIn wsX11_remove wsX11_beginLook := (gin_c (mem_at i9wsX11_remove_0 11 rfl) rfl (goodIn_app (goodIn_app (goodIn_app (goodIn_app (goodIn_app (goodIn_app (goodIn_app (gin_c (mem_at i9wsX11_remove_0 12 rfl) rfl (gin_c (mem_at i9wsX11_remove_0 13 rfl) rfl (gin_c (mem_at i9wsX11_remove_0 14 rfl) rfl (gin_c (mem_at i9wsX11_remove_0 15 rfl) rfl (gin_c (mem_at i9wsX11_remove_0 16 rfl) rfl (gin_c (mem_at i9wsX11_remove_0 4 rfl) rfl (gin_c (mem_at i9wsX11_remove_0 17 rfl) rfl (gin_c (mem_at i9wsX11_remove_0 2 rfl) rfl (gin_c (mem_at i9wsX11_remove_0 3 rfl) rfl (gin_c (mem_at i9wsX11_remove_0 5 rfl) rfl (gin_c (mem_at i9wsX11_remove_0 6 rfl) rfl (gin_c (mem_at i9wsX11_remove_0 7 rfl) rfl (gin_c (mem_at i9wsX11_remove_0 18 rfl) rfl (gin_c (mem_at i9wsX11_remove_0 19 rfl) rfl (gin_c (mem_at i9wsX11_remove_0 20 rfl) rfl (gin_c (mem_at i9wsX11_remove_0 21 rfl) rfl (gin_c (mem_at i9wsX11_remove_0 22 rfl) rfl (gin_c (mem_at i9wsX11_remove_0 23 rfl) rfl (gin_c (mem_at i9wsX11_remove_1 0 rfl) rfl (gin_c (mem_at i9wsX11_remove_1 1 rfl) rfl (gin_c (mem_at i9wsX11_remove_1 2 rfl) rfl (gin_c (mem_at i9wsX11_remove_1 3 rfl) rfl (gin_c (mem_at i9wsX11_remove_1 4 rfl) rfl (gin_c (mem_at i9wsX11_remove_1 5 rfl) rfl gin_n)))))))))))))))))))))))) (goodIn_app (gin_c (mem_at i9wsX11_remove_1 6 rfl) rfl (gin_c (mem_at i9wsX11_remove_1 7 rfl) rfl (gin_c (mem_at i9wsX11_remove_1 8 rfl) rfl (gin_c (mem_at i9wsX11_remove_1 9 rfl) rfl (gin_c (mem_at i9wsX11_remove_1 10 rfl) rfl (gin_c (mem_at i9wsX11_remove_1 11 rfl) rfl (gin_c (mem_at i9wsX11_remove_1 12 rfl) rfl (gin_c (mem_at i9wsX11_remove_1 13 rfl) rfl (gin_c (mem_at i9wsX11_remove_1 14 rfl) rfl (gin_c (mem_at i9wsX11_remove_1 15 rfl) rfl (gin_c (mem_at i9wsX11_remove_1 16 rfl) rfl (gin_c (mem_at i9wsX11_remove_1 17 rfl) rfl (gin_c (mem_at i9wsX11_remove_1 18 rfl) rfl (gin_c (mem_at i9wsX11_remove_1 19 rfl) rfl (gin_c (mem_at i9wsX11_remove_1 20 rfl) rfl (gin_c (mem_at i9wsX11_remove_1 21 rfl) rfl (gin_c (mem_at i9wsX11_remove_1 22 rfl) rfl (gin_c (mem_at i9wsX11_remove_1 23 rfl) rfl (gin_c (mem_at i9wsX11_remove_2 0 rfl) rfl (gin_c (mem_at i9wsX11_remove_2 1 rfl) rfl (gin_c (mem_at i9wsX11_remove_2 2 rfl) rfl (gin_c (mem_at i9wsX11_remove_2 3 rfl) rfl (gin_c (mem_at i9wsX11_remove_2 4 rfl) rfl (gin_c (mem_at i9wsX11_remove_2 5 rfl) rfl gin_n)))))))))))))))))))))))) (gin_c (mem_at i9wsX11_remove_2 6 rfl) rfl (gin_c (mem_at i9wsX11_remove_2 7 rfl) rfl (gin_c (mem_at i9wsX11_remove_2 8 rfl) rfl (gin_c (mem_at i9wsX11_remove_2 9 rfl) rfl (gin_c (mem_at i9wsX11_remove_2 10 rfl) rfl (gin_c (mem_at i9wsX11_remove_2 11 rfl) rfl (gin_c (mem_at i9wsX11_remove_2 12 rfl) rfl gin_n))))))))) (goodIn_sub i9wsX11_remove_6 g9_13)) (goodIn_sub i9wsX11_remove_7 g9_5)) (goodIn_sub i9wsX11_remove_8 g9_10)) (goodIn_sub i9wsX11_remove_9 g9_3)) (goodIn_sub i9wsX11_remove_14 g9_14)) (goodIn_sub i9wsX11_remove_15 g9_15)))
set_option maxRecDepth 20000 in
theorem gX11_remove_X11_beginLook : GoodIn wsX11_remove (wsV RX11 138 RX11 yX11_beginLook wsX11_beginLook) := goodIn_app (gin_c (mem_at i9wsX11_remove_0 8 rfl) rfl (gin_c (mem_at i9wsX11_remove_0 9 rfl) rfl (gin_c (mem_at i9wsX11_remove_0 10 rfl) rfl (gin_c (mem_at i9wsX11_remove_0 4 rfl) rfl gin_n)))) ggX11_remove_X11_beginLook
theorem i9wsX11_remove_3 : ∀ w ∈ wsX11_remove_r4, w ∈ wsX11_remove := fun _ h => (List.mem_cons_of_mem _ (List.mem_append_left _ (List.mem_append_left _ (List.mem_append_left _ (List.mem_append_left _ (List.mem_append_left _ (List.mem_append_left _ (List.mem_append_left _ (List.mem_append_left _ (List.mem_append_left _ (List.mem_append_left _ (List.mem_append_right _ (List.mem_append_right _ (List.mem_append_right _ (List.mem_append_left _ h)))))))))))))))
theorem i9wsX11_remove_4 : ∀ w ∈ wsX11_remove_r5, w ∈ wsX11_remove := fun _ h => (List.mem_cons_of_mem _ (List.mem_append_left _ (List.mem_append_left _ (List.mem_append_left _ (List.mem_append_left _ (List.mem_append_left _ (List.mem_append_left _ (List.mem_append_left _ (List.mem_append_left _ (List.mem_append_left _ (List.mem_append_left _ (List.mem_append_right _ (List.mem_append_right _ (List.mem_append_right _ (List.mem_append_right _ (List.mem_append_left _ h))))))))))))))))
theorem i9wsX11_remove_5 : ∀ w ∈ wsX11_remove_r6, w ∈ wsX11_remove := fun _ h => (List.mem_cons_of_mem _ (List.mem_append_left _ (List.mem_append_left _ (List.mem_append_left _ (List.mem_append_left _ (List.mem_append_left _ (List.mem_append_left _ (List.mem_append_left _ (List.mem_append_left _ (List.mem_append_left _ (List.mem_append_left _ (List.mem_append_right _ (List.mem_append_right _ (List.mem_append_right _ (List.mem_append_right _ (List.mem_append_right _ h))))))))))))))))
theorem i9wsX11_remove_10 : ∀ w ∈ wsX10, w ∈ wsX11_remove := fun _ h => (List.mem_cons_of_mem _ (List.mem_append_left _ (List.mem_append_left _ (List.mem_append_left _ (List.mem_append_left _ (List.mem_append_left _ (List.mem_append_right _ h)))))))
theorem i9wsX11_remove_11 : ∀ w ∈ wsX00, w ∈ wsX11_remove := fun _ h => (List.mem_cons_of_mem _ (List.mem_append_left _ (List.mem_append_left _ (List.mem_append_left _ (List.mem_append_left _ (List.mem_append_right _ h))))))
theorem i9wsX11_remove_12 : ∀ w ∈ wsX40, w ∈ wsX11_remove := fun _ h => (List.mem_cons_of_mem _ (List.mem_append_left _ (List.mem_append_left _ (List.mem_append_left _ (List.mem_append_right _ h)))))
theorem i9wsX11_remove_13 : ∀ w ∈ wsX30, w ∈ wsX11_remove := fun _ h => (List.mem_cons_of_mem _ (List.mem_append_left _ (List.mem_append_left _ (List.mem_append_right _ h))))
set_option maxRecDepth 20000 in
theorem ggX11_remove_X11_removeFirst : GoodIn wsX11_remove wsX11_removeFirst := (gin_c (mem_at i9wsX11_remove_2 16 rfl) rfl (goodIn_app (goodIn_app (goodIn_app (goodIn_app (goodIn_app (goodIn_app (goodIn_app (goodIn_app (goodIn_app (gin_c (mem_at i9wsX11_remove_0 0 rfl) rfl (gin_c (mem_at i9wsX11_remove_0 13 rfl) rfl (gin_c (mem_at i9wsX11_remove_2 17 rfl) rfl (gin_c (mem_at i9wsX11_remove_2 18 rfl) rfl (gin_c (mem_at i9wsX11_remove_2 19 rfl) rfl (gin_c (mem_at i9wsX11_remove_1 21 rfl) rfl (gin_c (mem_at i9wsX11_remove_2 20 rfl) rfl (gin_c (mem_at i9wsX11_remove_2 3 rfl) rfl (gin_c (mem_at i9wsX11_remove_1 23 rfl) rfl (gin_c (mem_at i9wsX11_remove_2 0 rfl) rfl (gin_c (mem_at i9wsX11_remove_2 2 rfl) rfl (gin_c (mem_at i9wsX11_remove_2 6 rfl) rfl (gin_c (mem_at i9wsX11_remove_2 21 rfl) rfl (gin_c (mem_at i9wsX11_remove_2 5 rfl) rfl (gin_c (mem_at i9wsX11_remove_2 1 rfl) rfl (gin_c (mem_at i9wsX11_remove_2 4 rfl) rfl (gin_c (mem_at i9wsX11_remove_2 22 rfl) rfl (gin_c (mem_at i9wsX11_remove_2 23 rfl) rfl (gin_c (mem_at i9wsX11_remove_3 0 rfl) rfl (gin_c (mem_at i9wsX11_remove_2 10 rfl) rfl (gin_c (mem_at i9wsX11_remove_3 1 rfl) rfl (gin_c (mem_at i9wsX11_remove_2 12 rfl) rfl (gin_c (mem_at i9wsX11_remove_3 2 rfl) rfl (gin_c (mem_at i9wsX11_remove_3 3 rfl) rfl gin_n)))))))))))))))))))))))) (goodIn_app (gin_c (mem_at i9wsX11_remove_0 4 rfl) rfl (gin_c (mem_at i9wsX11_remove_3 4 rfl) rfl (gin_c (mem_at i9wsX11_remove_3 5 rfl) rfl (gin_c (mem_at i9wsX11_remove_3 6 rfl) rfl (gin_c (mem_at i9wsX11_remove_3 7 rfl) rfl (gin_c (mem_at i9wsX11_remove_3 8 rfl) rfl (gin_c (mem_at i9wsX11_remove_3 9 rfl) rfl (gin_c (mem_at i9wsX11_remove_3 10 rfl) rfl (gin_c (mem_at i9wsX11_remove_3 11 rfl) rfl (gin_c (mem_at i9wsX11_remove_3 12 rfl) rfl (gin_c (mem_at i9wsX11_remove_3 13 rfl) rfl (gin_c (mem_at i9wsX11_remove_3 14 rfl) rfl (gin_c (mem_at i9wsX11_remove_3 15 rfl) rfl (gin_c (mem_at i9wsX11_remove_3 16 rfl) rfl (gin_c (mem_at i9wsX11_remove_3 17 rfl) rfl (gin_c (mem_at i9wsX11_remove_3 18 rfl) rfl (gin_c (mem_at i9wsX11_remove_3 19 rfl) rfl (gin_c (mem_at i9wsX11_remove_3 20 rfl) rfl (gin_c (mem_at i9wsX11_remove_3 21 rfl) rfl (gin_c (mem_at i9wsX11_remove_3 22 rfl) rfl (gin_c (mem_at i9wsX11_remove_3 23 rfl) rfl (gin_c (mem_at i9wsX11_remove_4 0 rfl) rfl (gin_c (mem_at i9wsX11_remove_4 1 rfl) rfl (gin_c (mem_at i9wsX11_remove_4 2 rfl) rfl gin_n)))))))))))))))))))))))) (goodIn_app (gin_c (mem_at i9wsX11_remove_4 3 rfl) rfl (gin_c (mem_at i9wsX11_remove_4 4 rfl) rfl (gin_c (mem_at i9wsX11_remove_4 5 rfl) rfl (gin_c (mem_at i9wsX11_remove_4 6 rfl) rfl (gin_c (mem_at i9wsX11_remove_4 7 rfl) rfl (gin_c (mem_at i9wsX11_remove_4 8 rfl) rfl (gin_c (mem_at i9wsX11_remove_4 9 rfl) rfl (gin_c (mem_at i9wsX11_remove_1 9 rfl) rfl (gin_c (mem_at i9wsX11_remove_4 10 rfl) rfl (gin_c (mem_at i9wsX11_remove_1 17 rfl) rfl (gin_c (mem_at i9wsX11_remove_4 11 rfl) rfl (gin_c (mem_at i9wsX11_remove_4 12 rfl) rfl (gin_c (mem_at i9wsX11_remove_4 13 rfl) rfl (gin_c (mem_at i9wsX11_remove_4 14 rfl) rfl (gin_c (mem_at i9wsX11_remove_4 15 rfl) rfl (gin_c (mem_at i9wsX11_remove_4 16 rfl) rfl (gin_c (mem_at i9wsX11_remove_4 17 rfl) rfl (gin_c (mem_at i9wsX11_remove_4 18 rfl) rfl (gin_c (mem_at i9wsX11_remove_4 19 rfl) rfl (gin_c (mem_at i9wsX11_remove_4 20 rfl) rfl (gin_c (mem_at i9wsX11_remove_4 21 rfl) rfl (gin_c (mem_at i9wsX11_remove_4 22 rfl) rfl (gin_c (mem_at i9wsX11_remove_4 23 rfl) rfl (gin_c (mem_at i9wsX11_remove_5 0 rfl) rfl gin_n)))))))))))))))))))))))) (gin_c (mem_at i9wsX11_remove_5 1 rfl) rfl gin_n)))) (goodIn_sub i9wsX11_remove_6 g9_13)) (goodIn_sub i9wsX11_remove_8 g9_10)) (goodIn_sub i9wsX11_remove_10 g9_0)) (goodIn_sub i9wsX11_remove_9 g9_3)) (goodIn_sub i9wsX11_remove_11 g9_1)) (goodIn_sub i9wsX11_remove_12 g9_2)) (goodIn_sub i9wsX11_remove_7 g9_5)) (goodIn_sub i9wsX11_remove_13 g9_4)))
set_option maxRecDepth 20000 in
theorem gX11_remove_X11_removeFirst : GoodIn wsX11_remove (wsV RX11 142 RX11 yX11_removeFirst wsX11_removeFirst) := goodIn_app (gin_c (mem_at i9wsX11_remove_2 13 rfl) rfl (gin_c (mem_at i9wsX11_remove_2 14 rfl) rfl (gin_c (mem_at i9wsX11_remove_2 15 rfl) rfl (gin_c (mem_at i9wsX11_remove_0 4 rfl) rfl gin_n)))) ggX11_remove_X11_removeFirst
set_option maxRecDepth 20000 in
theorem ggX11_remove_X11_removeAll : GoodIn wsX11_remove wsX11_removeAll := (gin_c (mem_at i9wsX11_remove_5 5 rfl) rfl (goodIn_app (goodIn_app (goodIn_app (goodIn_app (goodIn_app (goodIn_app (goodIn_app (goodIn_app (goodIn_app (gin_c (mem_at i9wsX11_remove_0 0 rfl) rfl (gin_c (mem_at i9wsX11_remove_0 13 rfl) rfl (gin_c (mem_at i9wsX11_remove_2 17 rfl) rfl (gin_c (mem_at i9wsX11_remove_2 18 rfl) rfl (gin_c (mem_at i9wsX11_remove_2 19 rfl) rfl (gin_c (mem_at i9wsX11_remove_1 21 rfl) rfl (gin_c (mem_at i9wsX11_remove_2 20 rfl) rfl (gin_c (mem_at i9wsX11_remove_2 3 rfl) rfl (gin_c (mem_at i9wsX11_remove_1 23 rfl) rfl (gin_c (mem_at i9wsX11_remove_2 0 rfl) rfl (gin_c (mem_at i9wsX11_remove_2 2 rfl) rfl (gin_c (mem_at i9wsX11_remove_2 6 rfl) rfl (gin_c (mem_at i9wsX11_remove_2 21 rfl) rfl (gin_c (mem_at i9wsX11_remove_2 5 rfl) rfl (gin_c (mem_at i9wsX11_remove_2 1 rfl) rfl (gin_c (mem_at i9wsX11_remove_2 4 rfl) rfl (gin_c (mem_at i9wsX11_remove_2 22 rfl) rfl (gin_c (mem_at i9wsX11_remove_2 23 rfl) rfl (gin_c (mem_at i9wsX11_remove_3 0 rfl) rfl (gin_c (mem_at i9wsX11_remove_2 10 rfl) rfl (gin_c (mem_at i9wsX11_remove_3 1 rfl) rfl (gin_c (mem_at i9wsX11_remove_2 12 rfl) rfl (gin_c (mem_at i9wsX11_remove_3 2 rfl) rfl (gin_c (mem_at i9wsX11_remove_3 3 rfl) rfl gin_n)))))))))))))))))))))))) (goodIn_app (gin_c (mem_at i9wsX11_remove_0 4 rfl) rfl (gin_c (mem_at i9wsX11_remove_3 4 rfl) rfl (gin_c (mem_at i9wsX11_remove_3 5 rfl) rfl (gin_c (mem_at i9wsX11_remove_3 6 rfl) rfl (gin_c (mem_at i9wsX11_remove_3 7 rfl) rfl (gin_c (mem_at i9wsX11_remove_3 8 rfl) rfl (gin_c (mem_at i9wsX11_remove_3 9 rfl) rfl (gin_c (mem_at i9wsX11_remove_3 10 rfl) rfl (gin_c (mem_at i9wsX11_remove_3 11 rfl) rfl (gin_c (mem_at i9wsX11_remove_3 12 rfl) rfl (gin_c (mem_at i9wsX11_remove_3 13 rfl) rfl (gin_c (mem_at i9wsX11_remove_3 14 rfl) rfl (gin_c (mem_at i9wsX11_remove_3 15 rfl) rfl (gin_c (mem_at i9wsX11_remove_3 16 rfl) rfl (gin_c (mem_at i9wsX11_remove_3 17 rfl) rfl (gin_c (mem_at i9wsX11_remove_3 18 rfl) rfl (gin_c (mem_at i9wsX11_remove_3 19 rfl) rfl (gin_c (mem_at i9wsX11_remove_3 20 rfl) rfl (gin_c (mem_at i9wsX11_remove_3 21 rfl) rfl (gin_c (mem_at i9wsX11_remove_3 22 rfl) rfl (gin_c (mem_at i9wsX11_remove_3 23 rfl) rfl (gin_c (mem_at i9wsX11_remove_4 0 rfl) rfl (gin_c (mem_at i9wsX11_remove_4 1 rfl) rfl (gin_c (mem_at i9wsX11_remove_4 2 rfl) rfl gin_n)))))))))))))))))))))))) (gin_c (mem_at i9wsX11_remove_4 3 rfl) rfl (gin_c (mem_at i9wsX11_remove_4 4 rfl) rfl (gin_c (mem_at i9wsX11_remove_4 5 rfl) rfl (gin_c (mem_at i9wsX11_remove_4 6 rfl) rfl (gin_c (mem_at i9wsX11_remove_4 7 rfl) rfl (gin_c (mem_at i9wsX11_remove_4 8 rfl) rfl (gin_c (mem_at i9wsX11_remove_4 9 rfl) rfl (gin_c (mem_at i9wsX11_remove_1 9 rfl) rfl (gin_c (mem_at i9wsX11_remove_4 10 rfl) rfl (gin_c (mem_at i9wsX11_remove_1 17 rfl) rfl (gin_c (mem_at i9wsX11_remove_4 11 rfl) rfl (gin_c (mem_at i9wsX11_remove_4 12 rfl) rfl (gin_c (mem_at i9wsX11_remove_4 13 rfl) rfl (gin_c (mem_at i9wsX11_remove_4 14 rfl) rfl (gin_c (mem_at i9wsX11_remove_4 15 rfl) rfl (gin_c (mem_at i9wsX11_remove_4 16 rfl) rfl (gin_c (mem_at i9wsX11_remove_4 17 rfl) rfl (gin_c (mem_at i9wsX11_remove_4 18 rfl) rfl (gin_c (mem_at i9wsX11_remove_4 19 rfl) rfl (gin_c (mem_at i9wsX11_remove_4 20 rfl) rfl (gin_c (mem_at i9wsX11_remove_4 21 rfl) rfl gin_n))))))))))))))))))))))) (goodIn_sub i9wsX11_remove_6 g9_13)) (goodIn_sub i9wsX11_remove_8 g9_10)) (goodIn_sub i9wsX11_remove_10 g9_0)) (goodIn_sub i9wsX11_remove_9 g9_3)) (goodIn_sub i9wsX11_remove_11 g9_1)) (goodIn_sub i9wsX11_remove_12 g9_2)) (goodIn_sub i9wsX11_remove_7 g9_5)) (goodIn_sub i9wsX11_remove_13 g9_4)))
set_option maxRecDepth 20000 in
theorem gX11_remove_X11_removeAll : GoodIn wsX11_remove (wsV RX11 145 RX11 yX11_removeAll wsX11_removeAll) := goodIn_app (gin_c (mem_at i9wsX11_remove_5 2 rfl) rfl (gin_c (mem_at i9wsX11_remove_5 3 rfl) rfl (gin_c (mem_at i9wsX11_remove_5 4 rfl) rfl (gin_c (mem_at i9wsX11_remove_0 4 rfl) rfl gin_n)))) ggX11_remove_X11_removeAll
set_option maxRecDepth 20000 in
theorem ggX11_remove_X5_takeLookedAt : GoodIn wsX11_remove wsX5_takeLookedAt := (gin_c (mem_at i9wsX11_remove_5 9 rfl) rfl (goodIn_app (gin_c (mem_at i9wsX11_remove_2 5 rfl) rfl gin_n) (goodIn_sub i9wsX11_remove_8 g9_10)))
set_option maxRecDepth 20000 in
theorem gX11_remove_X5_takeLookedAt : GoodIn wsX11_remove (wsV RX11 148 RX5 yX5_takeLookedAt wsX5_takeLookedAt) := goodIn_app (gin_c (mem_at i9wsX11_remove_5 6 rfl) rfl (gin_c (mem_at i9wsX11_remove_5 7 rfl) rfl (gin_c (mem_at i9wsX11_remove_5 8 rfl) rfl (gin_c (mem_at i9wsX11_remove_1 21 rfl) rfl gin_n)))) ggX11_remove_X5_takeLookedAt
set_option maxHeartbeats 4000000 in
set_option maxRecDepth 100000 in
theorem T_X11_remove (l : Launch) (hl : l.stackTraces = false) (D : va_G) (cA : Nat → ClassId) {l0 : Option Nat} {l1 : Int32} {l2 : Int32} {l3 : Int32} {x : HS} {Q : Int32 → HS → Prop} {X : String → HS → Prop} (h : w_X11_remove l0 l1 l2 l3 x Q X) : YI l yX11_remove wsX11_remove 10 180 D cA [.q l0, .i l1, .i l2, .i l3] x Q X := by
  refine YI.of (cc := cX11_remove) (maxL := 5) (ret := (some .int)) hl (by decide) rfl rfl (fun g B fr => ?_)
  have o := B.o
  have hb := B.hb
  have hts := B.hts
  have hown : g.s.vm.findClass RX11 = some g.m.cls := B.hown
  have in11 : ∀ w ∈ u_ws RX11 TX11 12, w ∈ wsX11_remove := fun w h => (List.mem_cons_of_mem _ (List.mem_append_left _ (List.mem_append_left _ (List.mem_append_left _ (List.mem_append_left _ (List.mem_append_left _ (List.mem_append_left _ (List.mem_append_left _ (List.mem_append_left _ (List.mem_append_left _ (List.mem_append_right _ h)))))))))))
  unfold w_X11_remove at h
  show KW g 5 0 [(0, .q l0), (1, .i l1), (2, .i l2), (3, .i l3)] [] x
  refine k_iload_n o hb dX11_remove_0 rfl 3 rfl ?_
  refine k_iconst (v := 0) o hb dX11_remove_1 (by decide) ?_
  refine k_iconst (v := 1) o hb dX11_remove_2 (by decide) ?_
  refine k_run_v o (fun _ _ q => q) (k_runS o hb B.hml hown hts (T_X11_requireRange g.l o.hl g.D g.cA h) (va_cwS 3 hts gX11_remove_X11_requireRange rfl rfl rfl (by decide +kernel) ⟨yle B.hR1 rfl, yle B.hR2 rfl⟩) rfl rfl (Nat.le_of_ble_eq_true rfl) dX11_remove_3) (fun x1 h => ?_)
  refine k_aload_n o hb dX11_remove_6 rfl 0 rfl ?_
  refine k_aload_n o hb dX11_remove_7 rfl 0 rfl ?_
  refine k_getF (C := RX11) (T := TX11) (N := 12) o hb hts in11 hown rfl (by decide) 6 (by decide) rfl (hts (.fieldLink RX11 38 "FactKeeper" "look" "LFactKeeper$Look;") (by decide +kernel)) (fun _ h9 => h9) dX11_remove_8 h (fun v3 h => ?_)
  refine k_iload_n o hb dX11_remove_11 rfl 1 rfl ?_
  refine k_iload_n o hb dX11_remove_12 rfl 2 rfl ?_
  refine k_iconst (v := (-1)) o hb dX11_remove_13 (by decide) ?_
  refine k_run_v o (fun _ _ q => q) (k_runV (ci := 11) (rc := (RX11, TX11, 12)) o hb B.hml hown hts rfl (by decide) (T_X11_beginLook g.l o.hl g.D g.cA h.2) (cwV 4 hts gX11_remove_X11_beginLook rfl rfl rfl (by decide +kernel) ⟨yle B.hR1 rfl, yle B.hR2 rfl⟩) h.1 rfl rfl (Nat.le_of_ble_eq_true rfl) dX11_remove_14) (fun x4 h => ?_)
  refine k_iload_n o hb dX11_remove_17 rfl 3 rfl ?_
  refine wJoin_elim (M := fun K => ∀ (v8 : Int32) (x7 : HS), K v8 x7 → KW g 5 32 [(0, .q l0)] [.i v8] x7) h ?_ (fun j6 hj6 h => ?_)
  · skip
    intro v8 x7 h
    refine k_istore o hb dX11_remove_32 rfl ?_
    refine k_aload_n o hb dX11_remove_34 rfl 1 rfl ?_
    refine k_aload_n o hb dX11_remove_35 rfl 1 rfl ?_
    refine k_getF (C := RX11) (T := TX11) (N := 12) o hb hts in11 hown rfl (by decide) 6 (by decide) rfl (hts (.fieldLink RX11 38 "FactKeeper" "look" "LFactKeeper$Look;") (by decide +kernel)) (fun _ h9 => h9) dX11_remove_36 h (fun v9 h => ?_)
    refine k_run_i o (fun _ _ q => q) (k_runV (ci := 5) (rc := (RX5, TX5, 8)) o hb B.hml hown hts rfl (by decide) (T_X5_takeLookedAt g.l o.hl g.D g.cA h.2) (cwV 0 hts gX11_remove_X5_takeLookedAt rfl rfl rfl (by decide +kernel) ⟨yle B.hR1 rfl, yle B.hR2 rfl⟩) h.1 rfl rfl (Nat.le_of_ble_eq_true rfl) dX11_remove_39) (fun v11 x10 h => ?_)
    refine k_putI (C := RX11) (T := TX11) (N := 12) (ty := .int) o hb hts in11 tyX11 tyX11_ok nmX11 hown rfl (by decide) 11 (by decide) rfl (hts (.fieldLink RX11 151 "FactKeeper" "lookedAt" "I") (by decide +kernel)) (fun _ h9 => h9) rfl (by decide +kernel) (fun _ => rfl) (fun _ => rfl) dX11_remove_42 h (fun x12 h => ?_)
    refine k_iload o hb dX11_remove_45 0 rfl ?_
    exact k_iret o hb B.hr fr dX11_remove_47 h
  · skip
    refine k_if_ne (tgt := 28) o hb dX11_remove_18 (by decide) h (fun h => ?_) (fun h => ?_)
    · skip
      refine k_aload_n o hb dX11_remove_21 rfl 0 rfl ?_
      refine k_run_i o (fun _ _ q => q) (k_runV (ci := 11) (rc := (RX11, TX11, 12)) o hb B.hml hown hts rfl (by decide) (T_X11_removeFirst g.l o.hl g.D g.cA h.2) (cwV 0 hts gX11_remove_X11_removeFirst rfl rfl rfl (by decide +kernel) ⟨yle B.hR1 rfl, yle B.hR2 rfl⟩) h.1 rfl rfl (Nat.le_of_ble_eq_true rfl) dX11_remove_22) (fun v14 x13 h => ?_)
      refine k_goto (tgt := 32) o hb dX11_remove_25 (by decide) ?_
      exact KW.sub [0] rfl (hj6 v14 x13 h)
    · skip
      refine k_aload_n o hb dX11_remove_28 rfl 0 rfl ?_
      refine k_run_i o (fun _ _ q => q) (k_runV (ci := 11) (rc := (RX11, TX11, 12)) o hb B.hml hown hts rfl (by decide) (T_X11_removeAll g.l o.hl g.D g.cA h.2) (cwV 0 hts gX11_remove_X11_removeAll rfl rfl rfl (by decide +kernel) ⟨yle B.hR1 rfl, yle B.hR2 rfl⟩) h.1 rfl rfl (Nat.le_of_ble_eq_true rfl) dX11_remove_29) (fun v16 x15 h => ?_)
      exact KW.sub [0] rfl (hj6 v16 x15 h)
theorem dX11_find_0 : decode cX11_find 0 = .ok (.aload_n 0, 1) := by decide +kernel
theorem dX11_find_1 : decode cX11_find 1 = .ok (.aload_n 0, 1) := by decide +kernel
theorem dX11_find_2 : decode cX11_find 2 = .ok (.getfield 38, 3) := by decide +kernel
theorem dX11_find_5 : decode cX11_find 5 = .ok (.iload_n 1, 1) := by decide +kernel
theorem dX11_find_6 : decode cX11_find 6 = .ok (.iload_n 2, 1) := by decide +kernel
theorem dX11_find_7 : decode cX11_find 7 = .ok (.iload_n 3, 1) := by decide +kernel
theorem dX11_find_8 : decode cX11_find 8 = .ok (.invokevirtual 138, 3) := by decide +kernel
theorem dX11_find_11 : decode cX11_find 11 = .ok (.aload_n 0, 1) := by decide +kernel
theorem dX11_find_12 : decode cX11_find 12 = .ok (.getfield 38, 3) := by decide +kernel
theorem dX11_find_15 : decode cX11_find 15 = .ok (.invokevirtual 154, 3) := by decide +kernel
theorem dX11_find_18 : decode cX11_find 18 = .ok (.astore 4, 2) := by decide +kernel
theorem dX11_find_20 : decode cX11_find 20 = .ok (.aload_n 0, 1) := by decide +kernel
theorem dX11_find_21 : decode cX11_find 21 = .ok (.aload_n 0, 1) := by decide +kernel
theorem dX11_find_22 : decode cX11_find 22 = .ok (.getfield 38, 3) := by decide +kernel
theorem dX11_find_25 : decode cX11_find 25 = .ok (.invokevirtual 148, 3) := by decide +kernel
theorem dX11_find_28 : decode cX11_find 28 = .ok (.putfield 151, 3) := by decide +kernel
theorem dX11_find_31 : decode cX11_find 31 = .ok (.aload 4, 2) := by decide +kernel
theorem dX11_find_33 : decode cX11_find 33 = .ok (.invokestatic 158, 3) := by decide +kernel
theorem dX11_find_36 : decode cX11_find 36 = .ok (.ireturn, 1) := by decide +kernel
theorem i9wsX11_find_0 : ∀ w ∈ wsX11_find_r1, w ∈ wsX11_find := fun _ h => (List.mem_cons_of_mem _ (List.mem_append_left _ (List.mem_append_left _ (List.mem_append_left _ (List.mem_append_left _ (List.mem_append_left _ (List.mem_append_left _ (List.mem_append_left _ (List.mem_append_left _ (List.mem_append_left _ (List.mem_append_left _ h)))))))))))
theorem i9wsX11_find_1 : ∀ w ∈ wsX11_find_r2, w ∈ wsX11_find := fun _ h => (List.mem_cons_of_mem _ (List.mem_append_left _ (List.mem_append_left _ (List.mem_append_left _ (List.mem_append_left _ (List.mem_append_left _ (List.mem_append_left _ (List.mem_append_left _ (List.mem_append_left _ (List.mem_append_left _ (List.mem_append_right _ (List.mem_append_left _ h))))))))))))
theorem i9wsX11_find_2 : ∀ w ∈ wsX11_find_r3, w ∈ wsX11_find := fun _ h => (List.mem_cons_of_mem _ (List.mem_append_left _ (List.mem_append_left _ (List.mem_append_left _ (List.mem_append_left _ (List.mem_append_left _ (List.mem_append_left _ (List.mem_append_left _ (List.mem_append_left _ (List.mem_append_left _ (List.mem_append_right _ (List.mem_append_right _ (List.mem_append_left _ h)))))))))))))
theorem i9wsX11_find_5 : ∀ w ∈ wsX110, w ∈ wsX11_find := fun _ h => (List.mem_cons_of_mem _ (List.mem_append_left _ (List.mem_append_left _ (List.mem_append_left _ (List.mem_append_left _ (List.mem_append_left _ (List.mem_append_left _ (List.mem_append_left _ (List.mem_append_left _ (List.mem_append_right _ h))))))))))
theorem i9wsX11_find_6 : ∀ w ∈ wsX90, w ∈ wsX11_find := fun _ h => (List.mem_cons_of_mem _ (List.mem_append_left _ (List.mem_append_left _ (List.mem_append_left _ (List.mem_append_left _ (List.mem_append_left _ (List.mem_append_left _ (List.mem_append_left _ (List.mem_append_right _ h)))))))))
theorem i9wsX11_find_7 : ∀ w ∈ wsX50, w ∈ wsX11_find := fun _ h => (List.mem_cons_of_mem _ (List.mem_append_left _ (List.mem_append_left _ (List.mem_append_left _ (List.mem_append_left _ (List.mem_append_left _ (List.mem_append_left _ (List.mem_append_right _ h))))))))
theorem i9wsX11_find_8 : ∀ w ∈ wsX100, w ∈ wsX11_find := fun _ h => (List.mem_cons_of_mem _ (List.mem_append_left _ (List.mem_append_left _ (List.mem_append_left _ (List.mem_append_left _ (List.mem_append_left _ (List.mem_append_right _ h)))))))
theorem i9wsX11_find_12 : ∀ w ∈ ((vx_atS RX11 340 "java/lang/IllegalArgumentException" ["java/lang/RuntimeException", "java/lang/Exception"]).filter goodWord), w ∈ wsX11_find := fun _ h => (List.mem_cons_of_mem _ (List.mem_append_left _ (List.mem_append_right _ h)))
theorem i9wsX11_find_13 : ∀ w ∈ ((tn_at RX11 184 "java/util/NoSuchElementException").filter goodWord), w ∈ wsX11_find := fun _ h => (List.mem_cons_of_mem _ (List.mem_append_right _ h))
set_option maxRecDepth 20000 in
theorem ggX11_find_X11_beginLook : GoodIn wsX11_find wsX11_beginLook := (gin_c (mem_at i9wsX11_find_0 6 rfl) rfl (goodIn_app (goodIn_app (goodIn_app (goodIn_app (goodIn_app (goodIn_app (goodIn_app (gin_c (mem_at i9wsX11_find_0 7 rfl) rfl (gin_c (mem_at i9wsX11_find_0 8 rfl) rfl (gin_c (mem_at i9wsX11_find_0 9 rfl) rfl (gin_c (mem_at i9wsX11_find_0 10 rfl) rfl (gin_c (mem_at i9wsX11_find_0 11 rfl) rfl (gin_c (mem_at i9wsX11_find_0 5 rfl) rfl (gin_c (mem_at i9wsX11_find_0 12 rfl) rfl (gin_c (mem_at i9wsX11_find_0 13 rfl) rfl (gin_c (mem_at i9wsX11_find_0 14 rfl) rfl (gin_c (mem_at i9wsX11_find_0 15 rfl) rfl (gin_c (mem_at i9wsX11_find_0 16 rfl) rfl (gin_c (mem_at i9wsX11_find_0 17 rfl) rfl (gin_c (mem_at i9wsX11_find_0 18 rfl) rfl (gin_c (mem_at i9wsX11_find_0 19 rfl) rfl (gin_c (mem_at i9wsX11_find_0 20 rfl) rfl (gin_c (mem_at i9wsX11_find_0 21 rfl) rfl (gin_c (mem_at i9wsX11_find_0 22 rfl) rfl (gin_c (mem_at i9wsX11_find_0 23 rfl) rfl (gin_c (mem_at i9wsX11_find_1 0 rfl) rfl (gin_c (mem_at i9wsX11_find_1 1 rfl) rfl (gin_c (mem_at i9wsX11_find_1 2 rfl) rfl (gin_c (mem_at i9wsX11_find_1 3 rfl) rfl (gin_c (mem_at i9wsX11_find_1 4 rfl) rfl (gin_c (mem_at i9wsX11_find_1 5 rfl) rfl gin_n)))))))))))))))))))))))) (goodIn_app (gin_c (mem_at i9wsX11_find_1 6 rfl) rfl (gin_c (mem_at i9wsX11_find_1 7 rfl) rfl (gin_c (mem_at i9wsX11_find_1 8 rfl) rfl (gin_c (mem_at i9wsX11_find_1 9 rfl) rfl (gin_c (mem_at i9wsX11_find_1 10 rfl) rfl (gin_c (mem_at i9wsX11_find_1 11 rfl) rfl (gin_c (mem_at i9wsX11_find_1 12 rfl) rfl (gin_c (mem_at i9wsX11_find_1 13 rfl) rfl (gin_c (mem_at i9wsX11_find_1 14 rfl) rfl (gin_c (mem_at i9wsX11_find_1 15 rfl) rfl (gin_c (mem_at i9wsX11_find_1 16 rfl) rfl (gin_c (mem_at i9wsX11_find_1 17 rfl) rfl (gin_c (mem_at i9wsX11_find_1 18 rfl) rfl (gin_c (mem_at i9wsX11_find_1 19 rfl) rfl (gin_c (mem_at i9wsX11_find_1 20 rfl) rfl (gin_c (mem_at i9wsX11_find_1 21 rfl) rfl (gin_c (mem_at i9wsX11_find_1 22 rfl) rfl (gin_c (mem_at i9wsX11_find_1 23 rfl) rfl (gin_c (mem_at i9wsX11_find_2 0 rfl) rfl (gin_c (mem_at i9wsX11_find_2 1 rfl) rfl (gin_c (mem_at i9wsX11_find_2 2 rfl) rfl (gin_c (mem_at i9wsX11_find_2 3 rfl) rfl (gin_c (mem_at i9wsX11_find_2 4 rfl) rfl (gin_c (mem_at i9wsX11_find_2 5 rfl) rfl gin_n)))))))))))))))))))))))) (gin_c (mem_at i9wsX11_find_2 6 rfl) rfl (gin_c (mem_at i9wsX11_find_2 7 rfl) rfl (gin_c (mem_at i9wsX11_find_2 8 rfl) rfl (gin_c (mem_at i9wsX11_find_2 9 rfl) rfl (gin_c (mem_at i9wsX11_find_2 10 rfl) rfl (gin_c (mem_at i9wsX11_find_2 11 rfl) rfl (gin_c (mem_at i9wsX11_find_2 12 rfl) rfl gin_n))))))))) (goodIn_sub i9wsX11_find_5 g9_13)) (goodIn_sub i9wsX11_find_6 g9_5)) (goodIn_sub i9wsX11_find_7 g9_10)) (goodIn_sub i9wsX11_find_8 g9_3)) (goodIn_sub i9wsX11_find_12 g9_14)) (goodIn_sub i9wsX11_find_13 g9_15)))
set_option maxRecDepth 20000 in
theorem gX11_find_X11_beginLook : GoodIn wsX11_find (wsV RX11 138 RX11 yX11_beginLook wsX11_beginLook) := goodIn_app (gin_c (mem_at i9wsX11_find_0 2 rfl) rfl (gin_c (mem_at i9wsX11_find_0 3 rfl) rfl (gin_c (mem_at i9wsX11_find_0 4 rfl) rfl (gin_c (mem_at i9wsX11_find_0 5 rfl) rfl gin_n)))) ggX11_find_X11_beginLook
theorem i9wsX11_find_3 : ∀ w ∈ wsX11_find_r4, w ∈ wsX11_find := fun _ h => (List.mem_cons_of_mem _ (List.mem_append_left _ (List.mem_append_left _ (List.mem_append_left _ (List.mem_append_left _ (List.mem_append_left _ (List.mem_append_left _ (List.mem_append_left _ (List.mem_append_left _ (List.mem_append_left _ (List.mem_append_right _ (List.mem_append_right _ (List.mem_append_right _ (List.mem_append_left _ h))))))))))))))
theorem i9wsX11_find_4 : ∀ w ∈ wsX11_find_r5, w ∈ wsX11_find := fun _ h => (List.mem_cons_of_mem _ (List.mem_append_left _ (List.mem_append_left _ (List.mem_append_left _ (List.mem_append_left _ (List.mem_append_left _ (List.mem_append_left _ (List.mem_append_left _ (List.mem_append_left _ (List.mem_append_left _ (List.mem_append_right _ (List.mem_append_right _ (List.mem_append_right _ (List.mem_append_right _ h))))))))))))))
theorem i9wsX11_find_9 : ∀ w ∈ wsX10, w ∈ wsX11_find := fun _ h => (List.mem_cons_of_mem _ (List.mem_append_left _ (List.mem_append_left _ (List.mem_append_left _ (List.mem_append_left _ (List.mem_append_right _ h))))))
theorem i9wsX11_find_10 : ∀ w ∈ wsX00, w ∈ wsX11_find := fun _ h => (List.mem_cons_of_mem _ (List.mem_append_left _ (List.mem_append_left _ (List.mem_append_left _ (List.mem_append_right _ h)))))
theorem i9wsX11_find_11 : ∀ w ∈ wsX40, w ∈ wsX11_find := fun _ h => (List.mem_cons_of_mem _ (List.mem_append_left _ (List.mem_append_left _ (List.mem_append_right _ h))))
set_option maxRecDepth 20000 in
theorem ggX11_find_X5_advance : GoodIn wsX11_find wsX5_advance := (gin_c (mem_at i9wsX11_find_2 16 rfl) rfl (goodIn_app (goodIn_app (goodIn_app (goodIn_app (goodIn_app (goodIn_app (gin_c (mem_at i9wsX11_find_2 3 rfl) rfl (gin_c (mem_at i9wsX11_find_1 23 rfl) rfl (gin_c (mem_at i9wsX11_find_2 0 rfl) rfl (gin_c (mem_at i9wsX11_find_2 2 rfl) rfl (gin_c (mem_at i9wsX11_find_2 6 rfl) rfl (gin_c (mem_at i9wsX11_find_2 17 rfl) rfl (gin_c (mem_at i9wsX11_find_2 5 rfl) rfl (gin_c (mem_at i9wsX11_find_2 1 rfl) rfl (gin_c (mem_at i9wsX11_find_2 4 rfl) rfl (gin_c (mem_at i9wsX11_find_2 18 rfl) rfl (gin_c (mem_at i9wsX11_find_2 19 rfl) rfl (gin_c (mem_at i9wsX11_find_2 20 rfl) rfl (gin_c (mem_at i9wsX11_find_2 10 rfl) rfl (gin_c (mem_at i9wsX11_find_2 21 rfl) rfl (gin_c (mem_at i9wsX11_find_2 12 rfl) rfl (gin_c (mem_at i9wsX11_find_2 22 rfl) rfl (gin_c (mem_at i9wsX11_find_2 23 rfl) rfl (gin_c (mem_at i9wsX11_find_0 5 rfl) rfl (gin_c (mem_at i9wsX11_find_3 0 rfl) rfl (gin_c (mem_at i9wsX11_find_3 1 rfl) rfl (gin_c (mem_at i9wsX11_find_3 2 rfl) rfl (gin_c (mem_at i9wsX11_find_3 3 rfl) rfl (gin_c (mem_at i9wsX11_find_3 4 rfl) rfl (gin_c (mem_at i9wsX11_find_3 5 rfl) rfl gin_n)))))))))))))))))))))))) (gin_c (mem_at i9wsX11_find_3 6 rfl) rfl (gin_c (mem_at i9wsX11_find_3 7 rfl) rfl (gin_c (mem_at i9wsX11_find_3 8 rfl) rfl (gin_c (mem_at i9wsX11_find_3 9 rfl) rfl (gin_c (mem_at i9wsX11_find_3 10 rfl) rfl (gin_c (mem_at i9wsX11_find_3 11 rfl) rfl (gin_c (mem_at i9wsX11_find_3 12 rfl) rfl (gin_c (mem_at i9wsX11_find_3 13 rfl) rfl (gin_c (mem_at i9wsX11_find_3 14 rfl) rfl (gin_c (mem_at i9wsX11_find_3 15 rfl) rfl (gin_c (mem_at i9wsX11_find_3 16 rfl) rfl (gin_c (mem_at i9wsX11_find_3 17 rfl) rfl (gin_c (mem_at i9wsX11_find_3 18 rfl) rfl (gin_c (mem_at i9wsX11_find_3 19 rfl) rfl (gin_c (mem_at i9wsX11_find_3 20 rfl) rfl (gin_c (mem_at i9wsX11_find_3 21 rfl) rfl (gin_c (mem_at i9wsX11_find_3 22 rfl) rfl (gin_c (mem_at i9wsX11_find_3 23 rfl) rfl (gin_c (mem_at i9wsX11_find_4 0 rfl) rfl (gin_c (mem_at i9wsX11_find_4 1 rfl) rfl (gin_c (mem_at i9wsX11_find_4 2 rfl) rfl gin_n)))))))))))))))))))))) (goodIn_sub i9wsX11_find_7 g9_10)) (goodIn_sub i9wsX11_find_9 g9_0)) (goodIn_sub i9wsX11_find_8 g9_3)) (goodIn_sub i9wsX11_find_10 g9_1)) (goodIn_sub i9wsX11_find_11 g9_2)))
set_option maxRecDepth 20000 in
theorem gX11_find_X5_advance : GoodIn wsX11_find (wsV RX11 154 RX5 yX5_advance wsX5_advance) := goodIn_app (gin_c (mem_at i9wsX11_find_2 13 rfl) rfl (gin_c (mem_at i9wsX11_find_2 14 rfl) rfl (gin_c (mem_at i9wsX11_find_2 15 rfl) rfl (gin_c (mem_at i9wsX11_find_1 21 rfl) rfl gin_n)))) ggX11_find_X5_advance
set_option maxRecDepth 20000 in
theorem ggX11_find_X5_takeLookedAt : GoodIn wsX11_find wsX5_takeLookedAt := (gin_c (mem_at i9wsX11_find_4 6 rfl) rfl (goodIn_app (gin_c (mem_at i9wsX11_find_2 5 rfl) rfl gin_n) (goodIn_sub i9wsX11_find_7 g9_10)))
set_option maxRecDepth 20000 in
theorem gX11_find_X5_takeLookedAt : GoodIn wsX11_find (wsV RX11 148 RX5 yX5_takeLookedAt wsX5_takeLookedAt) := goodIn_app (gin_c (mem_at i9wsX11_find_4 3 rfl) rfl (gin_c (mem_at i9wsX11_find_4 4 rfl) rfl (gin_c (mem_at i9wsX11_find_4 5 rfl) rfl (gin_c (mem_at i9wsX11_find_1 21 rfl) rfl gin_n)))) ggX11_find_X5_takeLookedAt
set_option maxRecDepth 20000 in
theorem ggX11_find_X11_numberOf : GoodIn wsX11_find wsX11_numberOf := (gin_c (mem_at i9wsX11_find_4 9 rfl) rfl (goodIn_app (gin_c (mem_at i9wsX11_find_4 10 rfl) rfl gin_n) (goodIn_sub i9wsX11_find_9 g9_0)))
set_option maxRecDepth 20000 in
theorem gX11_find_X11_numberOf : GoodIn wsX11_find (va_wsS RX11 158 yX11_numberOf wsX11_numberOf) := goodIn_app (gin_c (mem_at i9wsX11_find_4 7 rfl) rfl (gin_c (mem_at i9wsX11_find_4 8 rfl) rfl (gin_c (mem_at i9wsX11_find_0 5 rfl) rfl gin_n))) ggX11_find_X11_numberOf
set_option maxHeartbeats 4000000 in
set_option maxRecDepth 100000 in
theorem T_X11_find (l : Launch) (hl : l.stackTraces = false) (D : va_G) (cA : Nat → ClassId) {l0 : Option Nat} {l1 : Int32} {l2 : Int32} {l3 : Int32} {x : HS} {Q : Int32 → HS → Prop} {X : String → HS → Prop} (h : w_X11_find l0 l1 l2 l3 x Q X) : YI l yX11_find wsX11_find 10 180 D cA [.q l0, .i l1, .i l2, .i l3] x Q X := by
  refine YI.of (cc := cX11_find) (maxL := 5) (ret := (some .int)) hl (by decide) rfl rfl (fun g B fr => ?_)
  have o := B.o
  have hb := B.hb
  have hts := B.hts
  have hown : g.s.vm.findClass RX11 = some g.m.cls := B.hown
  have in11 : ∀ w ∈ u_ws RX11 TX11 12, w ∈ wsX11_find := fun w h => (List.mem_cons_of_mem _ (List.mem_append_left _ (List.mem_append_left _ (List.mem_append_left _ (List.mem_append_left _ (List.mem_append_left _ (List.mem_append_left _ (List.mem_append_left _ (List.mem_append_left _ (List.mem_append_right _ h))))))))))
  unfold w_X11_find at h
  show KW g 5 0 [(0, .q l0), (1, .i l1), (2, .i l2), (3, .i l3)] [] x
  refine k_aload_n o hb dX11_find_0 rfl 0 rfl ?_
  refine k_aload_n o hb dX11_find_1 rfl 0 rfl ?_
  refine k_getF (C := RX11) (T := TX11) (N := 12) o hb hts in11 hown rfl (by decide) 6 (by decide) rfl (hts (.fieldLink RX11 38 "FactKeeper" "look" "LFactKeeper$Look;") (by decide +kernel)) (fun _ h9 => h9) dX11_find_2 h (fun v1 h => ?_)
  refine k_iload_n o hb dX11_find_5 rfl 1 rfl ?_
  refine k_iload_n o hb dX11_find_6 rfl 2 rfl ?_
  refine k_iload_n o hb dX11_find_7 rfl 3 rfl ?_
  refine k_run_v o (fun _ _ q => q) (k_runV (ci := 11) (rc := (RX11, TX11, 12)) o hb B.hml hown hts rfl (by decide) (T_X11_beginLook g.l o.hl g.D g.cA h.2) (cwV 4 hts gX11_find_X11_beginLook rfl rfl rfl (by decide +kernel) ⟨yle B.hR1 rfl, yle B.hR2 rfl⟩) h.1 rfl rfl (Nat.le_of_ble_eq_true rfl) dX11_find_8) (fun x2 h => ?_)
  refine k_aload_n o hb dX11_find_11 rfl 0 rfl ?_
  refine k_getF (C := RX11) (T := TX11) (N := 12) o hb hts in11 hown rfl (by decide) 6 (by decide) rfl (hts (.fieldLink RX11 38 "FactKeeper" "look" "LFactKeeper$Look;") (by decide +kernel)) (fun _ h9 => h9) dX11_find_12 h (fun v4 h => ?_)
  refine k_run_q o (fun _ _ q => q) (k_runV (ci := 5) (rc := (RX5, TX5, 8)) o hb B.hml hown hts rfl (by decide) (T_X5_advance g.l o.hl g.D g.cA h.2) (cwV 0 hts gX11_find_X5_advance rfl rfl rfl (by decide +kernel) ⟨yle B.hR1 rfl, yle B.hR2 rfl⟩) h.1 rfl rfl (Nat.le_of_ble_eq_true rfl) dX11_find_15) (fun v6 x5 h => ?_)
  refine k_astore o hb dX11_find_18 rfl ?_
  refine k_aload_n o hb dX11_find_20 rfl 1 rfl ?_
  refine k_aload_n o hb dX11_find_21 rfl 1 rfl ?_
  refine k_getF (C := RX11) (T := TX11) (N := 12) o hb hts in11 hown rfl (by decide) 6 (by decide) rfl (hts (.fieldLink RX11 38 "FactKeeper" "look" "LFactKeeper$Look;") (by decide +kernel)) (fun _ h9 => h9) dX11_find_22 h (fun v7 h => ?_)
  refine k_run_i o (fun _ _ q => q) (k_runV (ci := 5) (rc := (RX5, TX5, 8)) o hb B.hml hown hts rfl (by decide) (T_X5_takeLookedAt g.l o.hl g.D g.cA h.2) (cwV 0 hts gX11_find_X5_takeLookedAt rfl rfl rfl (by decide +kernel) ⟨yle B.hR1 rfl, yle B.hR2 rfl⟩) h.1 rfl rfl (Nat.le_of_ble_eq_true rfl) dX11_find_25) (fun v9 x8 h => ?_)
  refine k_putI (C := RX11) (T := TX11) (N := 12) (ty := .int) o hb hts in11 tyX11 tyX11_ok nmX11 hown rfl (by decide) 11 (by decide) rfl (hts (.fieldLink RX11 151 "FactKeeper" "lookedAt" "I") (by decide +kernel)) (fun _ h9 => h9) rfl (by decide +kernel) (fun _ => rfl) (fun _ => rfl) dX11_find_28 h (fun x10 h => ?_)
  refine k_aload o hb dX11_find_31 0 rfl ?_
  refine k_run_i o (fun _ _ q => q) (k_runS o hb B.hml hown hts (T_X11_numberOf g.l o.hl g.D g.cA h) (va_cwS 1 hts gX11_find_X11_numberOf rfl rfl rfl (by decide +kernel) ⟨yle B.hR1 rfl, yle B.hR2 rfl⟩) rfl rfl (Nat.le_of_ble_eq_true rfl) dX11_find_33) (fun v12 x11 h => ?_)
  exact k_iret o hb B.hr fr dX11_find_36 h
theorem dX11_many_0 : decode cX11_many 0 = .ok (.aload_n 0, 1) := by decide +kernel
theorem dX11_many_1 : decode cX11_many 1 = .ok (.aload_n 0, 1) := by decide +kernel
theorem dX11_many_2 : decode cX11_many 2 = .ok (.getfield 38, 3) := by decide +kernel
theorem dX11_many_5 : decode cX11_many 5 = .ok (.iload_n 1, 1) := by decide +kernel
theorem dX11_many_6 : decode cX11_many 6 = .ok (.iload_n 2, 1) := by decide +kernel
theorem dX11_many_7 : decode cX11_many 7 = .ok (.iload_n 3, 1) := by decide +kernel
theorem dX11_many_8 : decode cX11_many 8 = .ok (.invokevirtual 138, 3) := by decide +kernel
theorem dX11_many_11 : decode cX11_many 11 = .ok (.iconst 0, 1) := by decide +kernel
theorem dX11_many_12 : decode cX11_many 12 = .ok (.istore 4, 2) := by decide +kernel
theorem dX11_many_14 : decode cX11_many 14 = .ok (.iload 4, 2) := by decide +kernel
theorem dX11_many_16 : decode cX11_many 16 = .ok (.sipush 3000, 3) := by decide +kernel
theorem dX11_many_19 : decode cX11_many 19 = .ok (.if_icmp .ge 19, 3) := by decide +kernel
theorem dX11_many_22 : decode cX11_many 22 = .ok (.aload_n 0, 1) := by decide +kernel
theorem dX11_many_23 : decode cX11_many 23 = .ok (.getfield 38, 3) := by decide +kernel
theorem dX11_many_26 : decode cX11_many 26 = .ok (.invokevirtual 154, 3) := by decide +kernel
theorem dX11_many_29 : decode cX11_many 29 = .ok (.ifnull 9, 3) := by decide +kernel
theorem dX11_many_32 : decode cX11_many 32 = .ok (.iinc 4 1, 3) := by decide +kernel
theorem dX11_many_35 : decode cX11_many 35 = .ok (.goto (-21), 3) := by decide +kernel
theorem dX11_many_38 : decode cX11_many 38 = .ok (.aload_n 0, 1) := by decide +kernel
theorem dX11_many_39 : decode cX11_many 39 = .ok (.aload_n 0, 1) := by decide +kernel
theorem dX11_many_40 : decode cX11_many 40 = .ok (.getfield 38, 3) := by decide +kernel
theorem dX11_many_43 : decode cX11_many 43 = .ok (.invokevirtual 148, 3) := by decide +kernel
theorem dX11_many_46 : decode cX11_many 46 = .ok (.putfield 151, 3) := by decide +kernel
theorem dX11_many_49 : decode cX11_many 49 = .ok (.iload 4, 2) := by decide +kernel
theorem dX11_many_51 : decode cX11_many 51 = .ok (.ireturn, 1) := by decide +kernel
theorem i9wsX11_many_0 : ∀ w ∈ wsX11_many_r1, w ∈ wsX11_many := fun _ h => (List.mem_cons_of_mem _ (List.mem_append_left _ (List.mem_append_left _ (List.mem_append_left _ (List.mem_append_left _ (List.mem_append_left _ (List.mem_append_left _ (List.mem_append_left _ (List.mem_append_left _ (List.mem_append_left _ (List.mem_append_left _ h)))))))))))
theorem i9wsX11_many_1 : ∀ w ∈ wsX11_many_r2, w ∈ wsX11_many := fun _ h => (List.mem_cons_of_mem _ (List.mem_append_left _ (List.mem_append_left _ (List.mem_append_left _ (List.mem_append_left _ (List.mem_append_left _ (List.mem_append_left _ (List.mem_append_left _ (List.mem_append_left _ (List.mem_append_left _ (List.mem_append_right _ (List.mem_append_left _ h))))))))))))
theorem i9wsX11_many_2 : ∀ w ∈ wsX11_many_r3, w ∈ wsX11_many := fun _ h => (List.mem_cons_of_mem _ (List.mem_append_left _ (List.mem_append_left _ (List.mem_append_left _ (List.mem_append_left _ (List.mem_append_left _ (List.mem_append_left _ (List.mem_append_left _ (List.mem_append_left _ (List.mem_append_left _ (List.mem_append_right _ (List.mem_append_right _ (List.mem_append_left _ h)))))))))))))
theorem i9wsX11_many_5 : ∀ w ∈ wsX110, w ∈ wsX11_many := fun _ h => (List.mem_cons_of_mem _ (List.mem_append_left _ (List.mem_append_left _ (List.mem_append_left _ (List.mem_append_left _ (List.mem_append_left _ (List.mem_append_left _ (List.mem_append_left _ (List.mem_append_left _ (List.mem_append_right _ h))))))))))
theorem i9wsX11_many_6 : ∀ w ∈ wsX90, w ∈ wsX11_many := fun _ h => (List.mem_cons_of_mem _ (List.mem_append_left _ (List.mem_append_left _ (List.mem_append_left _ (List.mem_append_left _ (List.mem_append_left _ (List.mem_append_left _ (List.mem_append_left _ (List.mem_append_right _ h)))))))))
theorem i9wsX11_many_7 : ∀ w ∈ wsX50, w ∈ wsX11_many := fun _ h => (List.mem_cons_of_mem _ (List.mem_append_left _ (List.mem_append_left _ (List.mem_append_left _ (List.mem_append_left _ (List.mem_append_left _ (List.mem_append_left _ (List.mem_append_right _ h))))))))
theorem i9wsX11_many_8 : ∀ w ∈ wsX100, w ∈ wsX11_many := fun _ h => (List.mem_cons_of_mem _ (List.mem_append_left _ (List.mem_append_left _ (List.mem_append_left _ (List.mem_append_left _ (List.mem_append_left _ (List.mem_append_right _ h)))))))
theorem i9wsX11_many_12 : ∀ w ∈ ((vx_atS RX11 340 "java/lang/IllegalArgumentException" ["java/lang/RuntimeException", "java/lang/Exception"]).filter goodWord), w ∈ wsX11_many := fun _ h => (List.mem_cons_of_mem _ (List.mem_append_left _ (List.mem_append_right _ h)))
theorem i9wsX11_many_13 : ∀ w ∈ ((tn_at RX11 184 "java/util/NoSuchElementException").filter goodWord), w ∈ wsX11_many := fun _ h => (List.mem_cons_of_mem _ (List.mem_append_right _ h))
set_option maxRecDepth 20000 in
theorem ggX11_many_X11_beginLook : GoodIn wsX11_many wsX11_beginLook := (gin_c (mem_at i9wsX11_many_0 6 rfl) rfl (goodIn_app (goodIn_app (goodIn_app (goodIn_app (goodIn_app (goodIn_app (goodIn_app (gin_c (mem_at i9wsX11_many_0 7 rfl) rfl (gin_c (mem_at i9wsX11_many_0 8 rfl) rfl (gin_c (mem_at i9wsX11_many_0 9 rfl) rfl (gin_c (mem_at i9wsX11_many_0 10 rfl) rfl (gin_c (mem_at i9wsX11_many_0 11 rfl) rfl (gin_c (mem_at i9wsX11_many_0 5 rfl) rfl (gin_c (mem_at i9wsX11_many_0 12 rfl) rfl (gin_c (mem_at i9wsX11_many_0 13 rfl) rfl (gin_c (mem_at i9wsX11_many_0 14 rfl) rfl (gin_c (mem_at i9wsX11_many_0 15 rfl) rfl (gin_c (mem_at i9wsX11_many_0 16 rfl) rfl (gin_c (mem_at i9wsX11_many_0 17 rfl) rfl (gin_c (mem_at i9wsX11_many_0 18 rfl) rfl (gin_c (mem_at i9wsX11_many_0 19 rfl) rfl (gin_c (mem_at i9wsX11_many_0 20 rfl) rfl (gin_c (mem_at i9wsX11_many_0 21 rfl) rfl (gin_c (mem_at i9wsX11_many_0 22 rfl) rfl (gin_c (mem_at i9wsX11_many_0 23 rfl) rfl (gin_c (mem_at i9wsX11_many_1 0 rfl) rfl (gin_c (mem_at i9wsX11_many_1 1 rfl) rfl (gin_c (mem_at i9wsX11_many_1 2 rfl) rfl (gin_c (mem_at i9wsX11_many_1 3 rfl) rfl (gin_c (mem_at i9wsX11_many_1 4 rfl) rfl (gin_c (mem_at i9wsX11_many_1 5 rfl) rfl gin_n)))))))))))))))))))))))) (goodIn_app (gin_c (mem_at i9wsX11_many_1 6 rfl) rfl (gin_c (mem_at i9wsX11_many_1 7 rfl) rfl (gin_c (mem_at i9wsX11_many_1 8 rfl) rfl (gin_c (mem_at i9wsX11_many_1 9 rfl) rfl (gin_c (mem_at i9wsX11_many_1 10 rfl) rfl (gin_c (mem_at i9wsX11_many_1 11 rfl) rfl (gin_c (mem_at i9wsX11_many_1 12 rfl) rfl (gin_c (mem_at i9wsX11_many_1 13 rfl) rfl (gin_c (mem_at i9wsX11_many_1 14 rfl) rfl (gin_c (mem_at i9wsX11_many_1 15 rfl) rfl (gin_c (mem_at i9wsX11_many_1 16 rfl) rfl (gin_c (mem_at i9wsX11_many_1 17 rfl) rfl (gin_c (mem_at i9wsX11_many_1 18 rfl) rfl (gin_c (mem_at i9wsX11_many_1 19 rfl) rfl (gin_c (mem_at i9wsX11_many_1 20 rfl) rfl (gin_c (mem_at i9wsX11_many_1 21 rfl) rfl (gin_c (mem_at i9wsX11_many_1 22 rfl) rfl (gin_c (mem_at i9wsX11_many_1 23 rfl) rfl (gin_c (mem_at i9wsX11_many_2 0 rfl) rfl (gin_c (mem_at i9wsX11_many_2 1 rfl) rfl (gin_c (mem_at i9wsX11_many_2 2 rfl) rfl (gin_c (mem_at i9wsX11_many_2 3 rfl) rfl (gin_c (mem_at i9wsX11_many_2 4 rfl) rfl (gin_c (mem_at i9wsX11_many_2 5 rfl) rfl gin_n)))))))))))))))))))))))) (gin_c (mem_at i9wsX11_many_2 6 rfl) rfl (gin_c (mem_at i9wsX11_many_2 7 rfl) rfl (gin_c (mem_at i9wsX11_many_2 8 rfl) rfl (gin_c (mem_at i9wsX11_many_2 9 rfl) rfl (gin_c (mem_at i9wsX11_many_2 10 rfl) rfl (gin_c (mem_at i9wsX11_many_2 11 rfl) rfl (gin_c (mem_at i9wsX11_many_2 12 rfl) rfl gin_n))))))))) (goodIn_sub i9wsX11_many_5 g9_13)) (goodIn_sub i9wsX11_many_6 g9_5)) (goodIn_sub i9wsX11_many_7 g9_10)) (goodIn_sub i9wsX11_many_8 g9_3)) (goodIn_sub i9wsX11_many_12 g9_14)) (goodIn_sub i9wsX11_many_13 g9_15)))
set_option maxRecDepth 20000 in
theorem gX11_many_X11_beginLook : GoodIn wsX11_many (wsV RX11 138 RX11 yX11_beginLook wsX11_beginLook) := goodIn_app (gin_c (mem_at i9wsX11_many_0 2 rfl) rfl (gin_c (mem_at i9wsX11_many_0 3 rfl) rfl (gin_c (mem_at i9wsX11_many_0 4 rfl) rfl (gin_c (mem_at i9wsX11_many_0 5 rfl) rfl gin_n)))) ggX11_many_X11_beginLook
theorem i9wsX11_many_3 : ∀ w ∈ wsX11_many_r4, w ∈ wsX11_many := fun _ h => (List.mem_cons_of_mem _ (List.mem_append_left _ (List.mem_append_left _ (List.mem_append_left _ (List.mem_append_left _ (List.mem_append_left _ (List.mem_append_left _ (List.mem_append_left _ (List.mem_append_left _ (List.mem_append_left _ (List.mem_append_right _ (List.mem_append_right _ (List.mem_append_right _ (List.mem_append_left _ h))))))))))))))
theorem i9wsX11_many_4 : ∀ w ∈ wsX11_many_r5, w ∈ wsX11_many := fun _ h => (List.mem_cons_of_mem _ (List.mem_append_left _ (List.mem_append_left _ (List.mem_append_left _ (List.mem_append_left _ (List.mem_append_left _ (List.mem_append_left _ (List.mem_append_left _ (List.mem_append_left _ (List.mem_append_left _ (List.mem_append_right _ (List.mem_append_right _ (List.mem_append_right _ (List.mem_append_right _ h))))))))))))))
theorem i9wsX11_many_9 : ∀ w ∈ wsX10, w ∈ wsX11_many := fun _ h => (List.mem_cons_of_mem _ (List.mem_append_left _ (List.mem_append_left _ (List.mem_append_left _ (List.mem_append_left _ (List.mem_append_right _ h))))))
theorem i9wsX11_many_10 : ∀ w ∈ wsX00, w ∈ wsX11_many := fun _ h => (List.mem_cons_of_mem _ (List.mem_append_left _ (List.mem_append_left _ (List.mem_append_left _ (List.mem_append_right _ h)))))
theorem i9wsX11_many_11 : ∀ w ∈ wsX40, w ∈ wsX11_many := fun _ h => (List.mem_cons_of_mem _ (List.mem_append_left _ (List.mem_append_left _ (List.mem_append_right _ h))))
set_option maxRecDepth 20000 in
theorem ggX11_many_X5_advance : GoodIn wsX11_many wsX5_advance := (gin_c (mem_at i9wsX11_many_2 16 rfl) rfl (goodIn_app (goodIn_app (goodIn_app (goodIn_app (goodIn_app (goodIn_app (gin_c (mem_at i9wsX11_many_2 3 rfl) rfl (gin_c (mem_at i9wsX11_many_1 23 rfl) rfl (gin_c (mem_at i9wsX11_many_2 0 rfl) rfl (gin_c (mem_at i9wsX11_many_2 2 rfl) rfl (gin_c (mem_at i9wsX11_many_2 6 rfl) rfl (gin_c (mem_at i9wsX11_many_2 17 rfl) rfl (gin_c (mem_at i9wsX11_many_2 5 rfl) rfl (gin_c (mem_at i9wsX11_many_2 1 rfl) rfl (gin_c (mem_at i9wsX11_many_2 4 rfl) rfl (gin_c (mem_at i9wsX11_many_2 18 rfl) rfl (gin_c (mem_at i9wsX11_many_2 19 rfl) rfl (gin_c (mem_at i9wsX11_many_2 20 rfl) rfl (gin_c (mem_at i9wsX11_many_2 10 rfl) rfl (gin_c (mem_at i9wsX11_many_2 21 rfl) rfl (gin_c (mem_at i9wsX11_many_2 12 rfl) rfl (gin_c (mem_at i9wsX11_many_2 22 rfl) rfl (gin_c (mem_at i9wsX11_many_2 23 rfl) rfl (gin_c (mem_at i9wsX11_many_0 5 rfl) rfl (gin_c (mem_at i9wsX11_many_3 0 rfl) rfl (gin_c (mem_at i9wsX11_many_3 1 rfl) rfl (gin_c (mem_at i9wsX11_many_3 2 rfl) rfl (gin_c (mem_at i9wsX11_many_3 3 rfl) rfl (gin_c (mem_at i9wsX11_many_3 4 rfl) rfl (gin_c (mem_at i9wsX11_many_3 5 rfl) rfl gin_n)))))))))))))))))))))))) (gin_c (mem_at i9wsX11_many_3 6 rfl) rfl (gin_c (mem_at i9wsX11_many_3 7 rfl) rfl (gin_c (mem_at i9wsX11_many_3 8 rfl) rfl (gin_c (mem_at i9wsX11_many_3 9 rfl) rfl (gin_c (mem_at i9wsX11_many_3 10 rfl) rfl (gin_c (mem_at i9wsX11_many_3 11 rfl) rfl (gin_c (mem_at i9wsX11_many_3 12 rfl) rfl (gin_c (mem_at i9wsX11_many_3 13 rfl) rfl (gin_c (mem_at i9wsX11_many_3 14 rfl) rfl (gin_c (mem_at i9wsX11_many_3 15 rfl) rfl (gin_c (mem_at i9wsX11_many_3 16 rfl) rfl (gin_c (mem_at i9wsX11_many_3 17 rfl) rfl (gin_c (mem_at i9wsX11_many_3 18 rfl) rfl (gin_c (mem_at i9wsX11_many_3 19 rfl) rfl (gin_c (mem_at i9wsX11_many_3 20 rfl) rfl (gin_c (mem_at i9wsX11_many_3 21 rfl) rfl (gin_c (mem_at i9wsX11_many_3 22 rfl) rfl (gin_c (mem_at i9wsX11_many_3 23 rfl) rfl (gin_c (mem_at i9wsX11_many_4 0 rfl) rfl (gin_c (mem_at i9wsX11_many_4 1 rfl) rfl (gin_c (mem_at i9wsX11_many_4 2 rfl) rfl gin_n)))))))))))))))))))))) (goodIn_sub i9wsX11_many_7 g9_10)) (goodIn_sub i9wsX11_many_9 g9_0)) (goodIn_sub i9wsX11_many_8 g9_3)) (goodIn_sub i9wsX11_many_10 g9_1)) (goodIn_sub i9wsX11_many_11 g9_2)))
set_option maxRecDepth 20000 in
theorem gX11_many_X5_advance : GoodIn wsX11_many (wsV RX11 154 RX5 yX5_advance wsX5_advance) := goodIn_app (gin_c (mem_at i9wsX11_many_2 13 rfl) rfl (gin_c (mem_at i9wsX11_many_2 14 rfl) rfl (gin_c (mem_at i9wsX11_many_2 15 rfl) rfl (gin_c (mem_at i9wsX11_many_1 21 rfl) rfl gin_n)))) ggX11_many_X5_advance
set_option maxRecDepth 20000 in
theorem ggX11_many_X5_takeLookedAt : GoodIn wsX11_many wsX5_takeLookedAt := (gin_c (mem_at i9wsX11_many_4 6 rfl) rfl (goodIn_app (gin_c (mem_at i9wsX11_many_2 5 rfl) rfl gin_n) (goodIn_sub i9wsX11_many_7 g9_10)))
set_option maxRecDepth 20000 in
theorem gX11_many_X5_takeLookedAt : GoodIn wsX11_many (wsV RX11 148 RX5 yX5_takeLookedAt wsX5_takeLookedAt) := goodIn_app (gin_c (mem_at i9wsX11_many_4 3 rfl) rfl (gin_c (mem_at i9wsX11_many_4 4 rfl) rfl (gin_c (mem_at i9wsX11_many_4 5 rfl) rfl (gin_c (mem_at i9wsX11_many_1 21 rfl) rfl gin_n)))) ggX11_many_X5_takeLookedAt
set_option maxHeartbeats 4000000 in
set_option maxRecDepth 100000 in
theorem T_X11_many (l : Launch) (hl : l.stackTraces = false) (D : va_G) (cA : Nat → ClassId) {l0 : Option Nat} {l1 : Int32} {l2 : Int32} {l3 : Int32} {x : HS} {Q : Int32 → HS → Prop} {X : String → HS → Prop} (h : w_X11_many l0 l1 l2 l3 x Q X) : YI l yX11_many wsX11_many 10 180 D cA [.q l0, .i l1, .i l2, .i l3] x Q X := by
  refine YI.of (cc := cX11_many) (maxL := 5) (ret := (some .int)) hl (by decide) rfl rfl (fun g B fr => ?_)
  have o := B.o
  have hb := B.hb
  have hts := B.hts
  have hown : g.s.vm.findClass RX11 = some g.m.cls := B.hown
  have in11 : ∀ w ∈ u_ws RX11 TX11 12, w ∈ wsX11_many := fun w h => (List.mem_cons_of_mem _ (List.mem_append_left _ (List.mem_append_left _ (List.mem_append_left _ (List.mem_append_left _ (List.mem_append_left _ (List.mem_append_left _ (List.mem_append_left _ (List.mem_append_left _ (List.mem_append_right _ h))))))))))
  unfold w_X11_many at h
  show KW g 5 0 [(0, .q l0), (1, .i l1), (2, .i l2), (3, .i l3)] [] x
  refine k_aload_n o hb dX11_many_0 rfl 0 rfl ?_
  refine k_aload_n o hb dX11_many_1 rfl 0 rfl ?_
  refine k_getF (C := RX11) (T := TX11) (N := 12) o hb hts in11 hown rfl (by decide) 6 (by decide) rfl (hts (.fieldLink RX11 38 "FactKeeper" "look" "LFactKeeper$Look;") (by decide +kernel)) (fun _ h9 => h9) dX11_many_2 h (fun v1 h => ?_)
  refine k_iload_n o hb dX11_many_5 rfl 1 rfl ?_
  refine k_iload_n o hb dX11_many_6 rfl 2 rfl ?_
  refine k_iload_n o hb dX11_many_7 rfl 3 rfl ?_
  refine k_run_v o (fun _ _ q => q) (k_runV (ci := 11) (rc := (RX11, TX11, 12)) o hb B.hml hown hts rfl (by decide) (T_X11_beginLook g.l o.hl g.D g.cA h.2) (cwV 4 hts gX11_many_X11_beginLook rfl rfl rfl (by decide +kernel) ⟨yle B.hR1 rfl, yle B.hR2 rfl⟩) h.1 rfl rfl (Nat.le_of_ble_eq_true rfl) dX11_many_8) (fun x2 h => ?_)
  refine k_iconst (v := 0) o hb dX11_many_11 (by decide) ?_
  refine k_istore o hb dX11_many_12 rfl ?_
  refine KW.sub [1, 0] rfl ?_
  refine wLoop_elim (M := fun (v7 : Int32) (x6 : HS) => KW g 5 14 [(0, .q l0), (4, .i v7)] [] x6) h ?_
  intro v7 x6 again4 ih5 h
  refine k_iload o hb dX11_many_14 1 rfl ?_
  refine k_sipush (v := 3000) o hb dX11_many_16 (by decide) ?_
  refine wJoin_elim (M := fun K => ∀  (x9 : HS), K  x9 → KW g 5 38 [(0, .q l0), (4, .i v7)] [] x9) h ?_ (fun j8 hj8 h => ?_)
  · skip
    intro  x9 h
    refine k_aload_n o hb dX11_many_38 rfl 0 rfl ?_
    refine k_aload_n o hb dX11_many_39 rfl 0 rfl ?_
    refine k_getF (C := RX11) (T := TX11) (N := 12) o hb hts in11 hown rfl (by decide) 6 (by decide) rfl (hts (.fieldLink RX11 38 "FactKeeper" "look" "LFactKeeper$Look;") (by decide +kernel)) (fun _ h9 => h9) dX11_many_40 h (fun v10 h => ?_)
    refine k_run_i o (fun _ _ q => q) (k_runV (ci := 5) (rc := (RX5, TX5, 8)) o hb B.hml hown hts rfl (by decide) (T_X5_takeLookedAt g.l o.hl g.D g.cA h.2) (cwV 0 hts gX11_many_X5_takeLookedAt rfl rfl rfl (by decide +kernel) ⟨yle B.hR1 rfl, yle B.hR2 rfl⟩) h.1 rfl rfl (Nat.le_of_ble_eq_true rfl) dX11_many_43) (fun v12 x11 h => ?_)
    refine k_putI (C := RX11) (T := TX11) (N := 12) (ty := .int) o hb hts in11 tyX11 tyX11_ok nmX11 hown rfl (by decide) 11 (by decide) rfl (hts (.fieldLink RX11 151 "FactKeeper" "lookedAt" "I") (by decide +kernel)) (fun _ h9 => h9) rfl (by decide +kernel) (fun _ => rfl) (fun _ => rfl) dX11_many_46 h (fun x13 h => ?_)
    refine k_iload o hb dX11_many_49 1 rfl ?_
    exact k_iret o hb B.hr fr dX11_many_51 h
  · skip
    refine k_icmp_ge (tgt := 38) o hb dX11_many_19 (by decide) h (fun h => ?_) (fun h => ?_)
    · skip
      exact KW.sub [0, 1] rfl (hj8 x6 h)
    · skip
      refine k_aload_n o hb dX11_many_22 rfl 0 rfl ?_
      refine k_getF (C := RX11) (T := TX11) (N := 12) o hb hts in11 hown rfl (by decide) 6 (by decide) rfl (hts (.fieldLink RX11 38 "FactKeeper" "look" "LFactKeeper$Look;") (by decide +kernel)) (fun _ h9 => h9) dX11_many_23 h (fun v14 h => ?_)
      refine k_run_q o (fun _ _ q => q) (k_runV (ci := 5) (rc := (RX5, TX5, 8)) o hb B.hml hown hts rfl (by decide) (T_X5_advance g.l o.hl g.D g.cA h.2) (cwV 0 hts gX11_many_X5_advance rfl rfl rfl (by decide +kernel) ⟨yle B.hR1 rfl, yle B.hR2 rfl⟩) h.1 rfl rfl (Nat.le_of_ble_eq_true rfl) dX11_many_26) (fun v16 x15 h => ?_)
      refine k_ifnull (tgt := 38) o hb dX11_many_29 (by decide) h (fun h => ?_) (fun h => ?_)
      · skip
        exact KW.sub [0, 1] rfl (hj8 x15 h)
      · skip
        refine k_iinc (w := 1) o hb dX11_many_32 1 rfl (by decide) rfl ?_
        refine k_goto (tgt := 14) o hb dX11_many_35 (by decide) ?_
        exact KW.sub [1, 0] rfl (ih5 (v7 + 1) x15 h)
theorem dX11_freeCursor_0 : decode cX11_freeCursor 0 = .ok (.iconst 0, 1) := by decide +kernel
theorem dX11_freeCursor_1 : decode cX11_freeCursor 1 = .ok (.istore_n 1, 1) := by decide +kernel
theorem dX11_freeCursor_2 : decode cX11_freeCursor 2 = .ok (.iload_n 1, 1) := by decide +kernel
theorem dX11_freeCursor_3 : decode cX11_freeCursor 3 = .ok (.bipush 10, 2) := by decide +kernel
theorem dX11_freeCursor_5 : decode cX11_freeCursor 5 = .ok (.if_icmp .ge 20, 3) := by decide +kernel
theorem dX11_freeCursor_8 : decode cX11_freeCursor 8 = .ok (.aload_n 0, 1) := by decide +kernel
theorem dX11_freeCursor_9 : decode cX11_freeCursor 9 = .ok (.getfield 30, 3) := by decide +kernel
theorem dX11_freeCursor_12 : decode cX11_freeCursor 12 = .ok (.iload_n 1, 1) := by decide +kernel
theorem dX11_freeCursor_13 : decode cX11_freeCursor 13 = .ok (.baload, 1) := by decide +kernel
theorem dX11_freeCursor_14 : decode cX11_freeCursor 14 = .ok (.ifCond .ne 5, 3) := by decide +kernel
theorem dX11_freeCursor_17 : decode cX11_freeCursor 17 = .ok (.iload_n 1, 1) := by decide +kernel
theorem dX11_freeCursor_18 : decode cX11_freeCursor 18 = .ok (.ireturn, 1) := by decide +kernel
theorem dX11_freeCursor_19 : decode cX11_freeCursor 19 = .ok (.iinc 1 1, 3) := by decide +kernel
theorem dX11_freeCursor_22 : decode cX11_freeCursor 22 = .ok (.goto (-20), 3) := by decide +kernel
theorem dX11_freeCursor_25 : decode cX11_freeCursor 25 = .ok (.iconst (-1), 1) := by decide +kernel
theorem dX11_freeCursor_26 : decode cX11_freeCursor 26 = .ok (.ireturn, 1) := by decide +kernel
set_option maxHeartbeats 4000000 in
set_option maxRecDepth 100000 in
theorem T_X11_freeCursor (l : Launch) (hl : l.stackTraces = false) (D : va_G) (cA : Nat → ClassId) {l0 : Option Nat} {x : HS} {Q : Int32 → HS → Prop} {X : String → HS → Prop} (h : w_X11_freeCursor l0 x Q X) : YI l yX11_freeCursor wsX11_freeCursor 0 0 D cA [.q l0] x Q X := by
  refine YI.of (cc := cX11_freeCursor) (maxL := 2) (ret := (some .int)) hl (by decide) rfl rfl (fun g B fr => ?_)
  have o := B.o
  have hb := B.hb
  have hts := B.hts
  have hown : g.s.vm.findClass RX11 = some g.m.cls := B.hown
  have in11 : ∀ w ∈ u_ws RX11 TX11 12, w ∈ wsX11_freeCursor := fun w h => (List.mem_cons_of_mem _ (List.mem_append_right _ h))
  unfold w_X11_freeCursor at h
  show KW g 2 0 [(0, .q l0)] [] x
  refine k_iconst (v := 0) o hb dX11_freeCursor_0 (by decide) ?_
  refine k_istore_n o hb dX11_freeCursor_1 rfl rfl ?_
  refine KW.sub [1, 0] rfl ?_
  refine wLoop_elim (M := fun (v4 : Int32) (x3 : HS) => KW g 2 2 [(0, .q l0), (1, .i v4)] [] x3) h ?_
  intro v4 x3 again1 ih2 h
  refine k_iload_n o hb dX11_freeCursor_2 rfl 1 rfl ?_
  refine k_bipush (v := 10) o hb dX11_freeCursor_3 (by decide) ?_
  refine k_icmp_ge (tgt := 25) o hb dX11_freeCursor_5 (by decide) h (fun h => ?_) (fun h => ?_)
  · skip
    refine k_iconst (v := (-1)) o hb dX11_freeCursor_25 (by decide) ?_
    exact k_iret o hb B.hr fr dX11_freeCursor_26 h
  · skip
    refine k_aload_n o hb dX11_freeCursor_8 rfl 0 rfl ?_
    refine k_getF (C := RX11) (T := TX11) (N := 12) o hb hts in11 hown rfl (by decide) 4 (by decide) rfl (hts (.fieldLink RX11 30 "FactKeeper" "isOpen" "[Z") (by decide +kernel)) (fun _ h9 => h9) dX11_freeCursor_9 h (fun v5 h => ?_)
    refine k_iload_n o hb dX11_freeCursor_12 rfl 1 rfl ?_
    refine k_zald o hb dX11_freeCursor_13 h (fun v6 h => ?_)
    refine k_if_ne (tgt := 19) o hb dX11_freeCursor_14 (by decide) h (fun h => ?_) (fun h => ?_)
    · skip
      refine k_iload_n o hb dX11_freeCursor_17 rfl 1 rfl ?_
      exact k_iret o hb B.hr fr dX11_freeCursor_18 h
    · skip
      refine k_iinc (w := 1) o hb dX11_freeCursor_19 1 rfl (by decide) rfl ?_
      refine k_goto (tgt := 2) o hb dX11_freeCursor_22 (by decide) ?_
      exact KW.sub [1, 0] rfl (ih2 (v4 + 1) x3 h)
theorem dX11_open_0 : decode cX11_open 0 = .ok (.aload_n 0, 1) := by decide +kernel
theorem dX11_open_1 : decode cX11_open 1 = .ok (.iload_n 1, 1) := by decide +kernel
theorem dX11_open_2 : decode cX11_open 2 = .ok (.iload_n 2, 1) := by decide +kernel
theorem dX11_open_3 : decode cX11_open 3 = .ok (.iload_n 3, 1) := by decide +kernel
theorem dX11_open_4 : decode cX11_open 4 = .ok (.invokevirtual 162, 3) := by decide +kernel
theorem dX11_open_7 : decode cX11_open 7 = .ok (.aload_n 0, 1) := by decide +kernel
theorem dX11_open_8 : decode cX11_open 8 = .ok (.invokevirtual 165, 3) := by decide +kernel
theorem dX11_open_11 : decode cX11_open 11 = .ok (.istore 4, 2) := by decide +kernel
theorem dX11_open_13 : decode cX11_open 13 = .ok (.iload 4, 2) := by decide +kernel
theorem dX11_open_15 : decode cX11_open 15 = .ok (.iconst (-1), 1) := by decide +kernel
theorem dX11_open_16 : decode cX11_open 16 = .ok (.if_icmp .ne 13, 3) := by decide +kernel
theorem dX11_open_19 : decode cX11_open 19 = .ok (.new 79, 3) := by decide +kernel
theorem dX11_open_22 : decode cX11_open 22 = .ok (.dup, 1) := by decide +kernel
theorem dX11_open_23 : decode cX11_open 23 = .ok (.ldc 168, 2) := by decide +kernel
theorem dX11_open_25 : decode cX11_open 25 = .ok (.invokespecial 83, 3) := by decide +kernel
theorem dX11_open_28 : decode cX11_open 28 = .ok (.athrow, 1) := by decide +kernel
theorem dX11_open_29 : decode cX11_open 29 = .ok (.aload_n 0, 1) := by decide +kernel
theorem dX11_open_30 : decode cX11_open 30 = .ok (.aload_n 0, 1) := by decide +kernel
theorem dX11_open_31 : decode cX11_open 31 = .ok (.getfield 26, 3) := by decide +kernel
theorem dX11_open_34 : decode cX11_open 34 = .ok (.iload 4, 2) := by decide +kernel
theorem dX11_open_36 : decode cX11_open 36 = .ok (.aaload, 1) := by decide +kernel
theorem dX11_open_37 : decode cX11_open 37 = .ok (.iload_n 1, 1) := by decide +kernel
theorem dX11_open_38 : decode cX11_open 38 = .ok (.iload_n 2, 1) := by decide +kernel
theorem dX11_open_39 : decode cX11_open 39 = .ok (.iload_n 3, 1) := by decide +kernel
theorem dX11_open_40 : decode cX11_open 40 = .ok (.invokevirtual 138, 3) := by decide +kernel
theorem dX11_open_43 : decode cX11_open 43 = .ok (.aload_n 0, 1) := by decide +kernel
theorem dX11_open_44 : decode cX11_open 44 = .ok (.getfield 30, 3) := by decide +kernel
theorem dX11_open_47 : decode cX11_open 47 = .ok (.iload 4, 2) := by decide +kernel
theorem dX11_open_49 : decode cX11_open 49 = .ok (.iconst 1, 1) := by decide +kernel
theorem dX11_open_50 : decode cX11_open 50 = .ok (.bastore, 1) := by decide +kernel
theorem dX11_open_51 : decode cX11_open 51 = .ok (.iload 4, 2) := by decide +kernel
theorem dX11_open_53 : decode cX11_open 53 = .ok (.ireturn, 1) := by decide +kernel
theorem i9wsX11_open_0 : ∀ w ∈ wsX11_open_r1, w ∈ wsX11_open := fun _ h => (List.mem_cons_of_mem _ (List.mem_append_left _ (List.mem_append_left _ (List.mem_append_left _ (List.mem_append_left _ (List.mem_append_left _ (List.mem_append_left _ (List.mem_append_left _ (List.mem_append_left _ h)))))))))
theorem i9wsX11_open_1 : ∀ w ∈ wsX11_open_r2, w ∈ wsX11_open := fun _ h => (List.mem_cons_of_mem _ (List.mem_append_left _ (List.mem_append_left _ (List.mem_append_left _ (List.mem_append_left _ (List.mem_append_left _ (List.mem_append_left _ (List.mem_append_left _ (List.mem_append_right _ (List.mem_append_left _ h))))))))))
theorem i9wsX11_open_3 : ∀ w ∈ wsX110, w ∈ wsX11_open := fun _ h => (List.mem_cons_of_mem _ (List.mem_append_left _ (List.mem_append_left _ (List.mem_append_left _ (List.mem_append_left _ (List.mem_append_left _ (List.mem_append_left _ (List.mem_append_right _ h))))))))
theorem i9wsX11_open_4 : ∀ w ∈ wsX90, w ∈ wsX11_open := fun _ h => (List.mem_cons_of_mem _ (List.mem_append_left _ (List.mem_append_left _ (List.mem_append_left _ (List.mem_append_left _ (List.mem_append_left _ (List.mem_append_right _ h)))))))
theorem i9wsX11_open_8 : ∀ w ∈ ((vx_atS RX11 340 "java/lang/IllegalArgumentException" ["java/lang/RuntimeException", "java/lang/Exception"]).filter goodWord), w ∈ wsX11_open := fun _ h => (List.mem_cons_of_mem _ (List.mem_append_left _ (List.mem_append_right _ h)))
theorem i9wsX11_open_9 : ∀ w ∈ ((tn_at RX11 184 "java/util/NoSuchElementException").filter goodWord), w ∈ wsX11_open := fun _ h => (List.mem_cons_of_mem _ (List.mem_append_right _ h))
set_option maxRecDepth 20000 in
theorem ggX11_open_X11_requireLook : GoodIn wsX11_open wsX11_requireLook := (gin_c (mem_at i9wsX11_open_0 8 rfl) rfl (goodIn_app (goodIn_app (goodIn_app (goodIn_app (goodIn_app (gin_c (mem_at i9wsX11_open_0 9 rfl) rfl (gin_c (mem_at i9wsX11_open_0 10 rfl) rfl (gin_c (mem_at i9wsX11_open_0 7 rfl) rfl (gin_c (mem_at i9wsX11_open_0 11 rfl) rfl (gin_c (mem_at i9wsX11_open_0 12 rfl) rfl (gin_c (mem_at i9wsX11_open_0 13 rfl) rfl (gin_c (mem_at i9wsX11_open_0 14 rfl) rfl (gin_c (mem_at i9wsX11_open_0 15 rfl) rfl (gin_c (mem_at i9wsX11_open_0 16 rfl) rfl (gin_c (mem_at i9wsX11_open_0 17 rfl) rfl (gin_c (mem_at i9wsX11_open_0 18 rfl) rfl (gin_c (mem_at i9wsX11_open_0 19 rfl) rfl (gin_c (mem_at i9wsX11_open_0 20 rfl) rfl (gin_c (mem_at i9wsX11_open_0 21 rfl) rfl (gin_c (mem_at i9wsX11_open_0 22 rfl) rfl (gin_c (mem_at i9wsX11_open_0 23 rfl) rfl (gin_c (mem_at i9wsX11_open_1 0 rfl) rfl (gin_c (mem_at i9wsX11_open_1 1 rfl) rfl (gin_c (mem_at i9wsX11_open_1 2 rfl) rfl (gin_c (mem_at i9wsX11_open_1 3 rfl) rfl (gin_c (mem_at i9wsX11_open_1 4 rfl) rfl (gin_c (mem_at i9wsX11_open_1 5 rfl) rfl (gin_c (mem_at i9wsX11_open_1 6 rfl) rfl (gin_c (mem_at i9wsX11_open_1 7 rfl) rfl gin_n)))))))))))))))))))))))) (gin_c (mem_at i9wsX11_open_1 8 rfl) rfl (gin_c (mem_at i9wsX11_open_1 9 rfl) rfl gin_n))) (goodIn_sub i9wsX11_open_3 g9_13)) (goodIn_sub i9wsX11_open_4 g9_5)) (goodIn_sub i9wsX11_open_8 g9_14)) (goodIn_sub i9wsX11_open_9 g9_15)))
set_option maxRecDepth 20000 in
theorem gX11_open_X11_requireLook : GoodIn wsX11_open (wsV RX11 162 RX11 yX11_requireLook wsX11_requireLook) := goodIn_app (gin_c (mem_at i9wsX11_open_0 4 rfl) rfl (gin_c (mem_at i9wsX11_open_0 5 rfl) rfl (gin_c (mem_at i9wsX11_open_0 6 rfl) rfl (gin_c (mem_at i9wsX11_open_0 7 rfl) rfl gin_n)))) ggX11_open_X11_requireLook
set_option maxRecDepth 20000 in
theorem ggX11_open_X11_freeCursor : GoodIn wsX11_open wsX11_freeCursor := (gin_c (mem_at i9wsX11_open_1 13 rfl) rfl (goodIn_app (gin_c (mem_at i9wsX11_open_0 3 rfl) rfl gin_n) (goodIn_sub i9wsX11_open_3 g9_13)))
set_option maxRecDepth 20000 in
theorem gX11_open_X11_freeCursor : GoodIn wsX11_open (wsV RX11 165 RX11 yX11_freeCursor wsX11_freeCursor) := goodIn_app (gin_c (mem_at i9wsX11_open_1 10 rfl) rfl (gin_c (mem_at i9wsX11_open_1 11 rfl) rfl (gin_c (mem_at i9wsX11_open_1 12 rfl) rfl (gin_c (mem_at i9wsX11_open_0 7 rfl) rfl gin_n)))) ggX11_open_X11_freeCursor
theorem i9wsX11_open_2 : ∀ w ∈ wsX11_open_r3, w ∈ wsX11_open := fun _ h => (List.mem_cons_of_mem _ (List.mem_append_left _ (List.mem_append_left _ (List.mem_append_left _ (List.mem_append_left _ (List.mem_append_left _ (List.mem_append_left _ (List.mem_append_left _ (List.mem_append_right _ (List.mem_append_right _ h))))))))))
theorem i9wsX11_open_5 : ∀ w ∈ wsX50, w ∈ wsX11_open := fun _ h => (List.mem_cons_of_mem _ (List.mem_append_left _ (List.mem_append_left _ (List.mem_append_left _ (List.mem_append_left _ (List.mem_append_right _ h))))))
theorem i9wsX11_open_6 : ∀ w ∈ wsX100, w ∈ wsX11_open := fun _ h => (List.mem_cons_of_mem _ (List.mem_append_left _ (List.mem_append_left _ (List.mem_append_left _ (List.mem_append_right _ h)))))
set_option maxRecDepth 20000 in
theorem ggX11_open_X11_beginLook : GoodIn wsX11_open wsX11_beginLook := (gin_c (mem_at i9wsX11_open_1 17 rfl) rfl (goodIn_app (goodIn_app (goodIn_app (goodIn_app (goodIn_app (goodIn_app (goodIn_app (gin_c (mem_at i9wsX11_open_1 18 rfl) rfl (gin_c (mem_at i9wsX11_open_0 18 rfl) rfl (gin_c (mem_at i9wsX11_open_0 4 rfl) rfl (gin_c (mem_at i9wsX11_open_0 5 rfl) rfl (gin_c (mem_at i9wsX11_open_0 6 rfl) rfl (gin_c (mem_at i9wsX11_open_0 7 rfl) rfl (gin_c (mem_at i9wsX11_open_0 8 rfl) rfl (gin_c (mem_at i9wsX11_open_0 9 rfl) rfl (gin_c (mem_at i9wsX11_open_0 10 rfl) rfl (gin_c (mem_at i9wsX11_open_0 11 rfl) rfl (gin_c (mem_at i9wsX11_open_0 12 rfl) rfl (gin_c (mem_at i9wsX11_open_0 13 rfl) rfl (gin_c (mem_at i9wsX11_open_0 14 rfl) rfl (gin_c (mem_at i9wsX11_open_0 15 rfl) rfl (gin_c (mem_at i9wsX11_open_0 16 rfl) rfl (gin_c (mem_at i9wsX11_open_0 17 rfl) rfl (gin_c (mem_at i9wsX11_open_0 19 rfl) rfl (gin_c (mem_at i9wsX11_open_0 20 rfl) rfl (gin_c (mem_at i9wsX11_open_0 21 rfl) rfl (gin_c (mem_at i9wsX11_open_0 22 rfl) rfl (gin_c (mem_at i9wsX11_open_0 23 rfl) rfl (gin_c (mem_at i9wsX11_open_1 0 rfl) rfl (gin_c (mem_at i9wsX11_open_1 1 rfl) rfl (gin_c (mem_at i9wsX11_open_1 2 rfl) rfl gin_n)))))))))))))))))))))))) (goodIn_app (gin_c (mem_at i9wsX11_open_1 3 rfl) rfl (gin_c (mem_at i9wsX11_open_1 4 rfl) rfl (gin_c (mem_at i9wsX11_open_1 5 rfl) rfl (gin_c (mem_at i9wsX11_open_1 6 rfl) rfl (gin_c (mem_at i9wsX11_open_1 7 rfl) rfl (gin_c (mem_at i9wsX11_open_1 8 rfl) rfl (gin_c (mem_at i9wsX11_open_1 9 rfl) rfl (gin_c (mem_at i9wsX11_open_1 19 rfl) rfl (gin_c (mem_at i9wsX11_open_1 20 rfl) rfl (gin_c (mem_at i9wsX11_open_1 21 rfl) rfl (gin_c (mem_at i9wsX11_open_1 22 rfl) rfl (gin_c (mem_at i9wsX11_open_1 23 rfl) rfl (gin_c (mem_at i9wsX11_open_2 0 rfl) rfl (gin_c (mem_at i9wsX11_open_2 1 rfl) rfl (gin_c (mem_at i9wsX11_open_2 2 rfl) rfl (gin_c (mem_at i9wsX11_open_2 3 rfl) rfl (gin_c (mem_at i9wsX11_open_2 4 rfl) rfl (gin_c (mem_at i9wsX11_open_2 5 rfl) rfl (gin_c (mem_at i9wsX11_open_2 6 rfl) rfl (gin_c (mem_at i9wsX11_open_2 7 rfl) rfl (gin_c (mem_at i9wsX11_open_2 8 rfl) rfl (gin_c (mem_at i9wsX11_open_2 9 rfl) rfl (gin_c (mem_at i9wsX11_open_2 10 rfl) rfl (gin_c (mem_at i9wsX11_open_2 11 rfl) rfl gin_n)))))))))))))))))))))))) (gin_c (mem_at i9wsX11_open_2 12 rfl) rfl (gin_c (mem_at i9wsX11_open_2 13 rfl) rfl (gin_c (mem_at i9wsX11_open_2 14 rfl) rfl (gin_c (mem_at i9wsX11_open_2 15 rfl) rfl (gin_c (mem_at i9wsX11_open_2 16 rfl) rfl (gin_c (mem_at i9wsX11_open_2 17 rfl) rfl (gin_c (mem_at i9wsX11_open_2 18 rfl) rfl gin_n))))))))) (goodIn_sub i9wsX11_open_3 g9_13)) (goodIn_sub i9wsX11_open_4 g9_5)) (goodIn_sub i9wsX11_open_5 g9_10)) (goodIn_sub i9wsX11_open_6 g9_3)) (goodIn_sub i9wsX11_open_8 g9_14)) (goodIn_sub i9wsX11_open_9 g9_15)))
set_option maxRecDepth 20000 in
theorem gX11_open_X11_beginLook : GoodIn wsX11_open (wsV RX11 138 RX11 yX11_beginLook wsX11_beginLook) := goodIn_app (gin_c (mem_at i9wsX11_open_1 14 rfl) rfl (gin_c (mem_at i9wsX11_open_1 15 rfl) rfl (gin_c (mem_at i9wsX11_open_1 16 rfl) rfl (gin_c (mem_at i9wsX11_open_0 7 rfl) rfl gin_n)))) ggX11_open_X11_beginLook
set_option maxHeartbeats 4000000 in
set_option maxRecDepth 100000 in
theorem T_X11_open (l : Launch) (hl : l.stackTraces = false) (D : va_G) (cA : Nat → ClassId) {l0 : Option Nat} {l1 : Int32} {l2 : Int32} {l3 : Int32} {x : HS} {Q : Int32 → HS → Prop} {X : String → HS → Prop} (h : w_X11_open l0 l1 l2 l3 x Q X) : YI l yX11_open wsX11_open 10 180 D cA [.q l0, .i l1, .i l2, .i l3] x Q X := by
  refine YI.of (cc := cX11_open) (maxL := 5) (ret := (some .int)) hl (by decide) rfl rfl (fun g B fr => ?_)
  have o := B.o
  have hb := B.hb
  have hts := B.hts
  have hown : g.s.vm.findClass RX11 = some g.m.cls := B.hown
  have in11 : ∀ w ∈ u_ws RX11 TX11 12, w ∈ wsX11_open := fun w h => (List.mem_cons_of_mem _ (List.mem_append_left _ (List.mem_append_left _ (List.mem_append_left _ (List.mem_append_left _ (List.mem_append_left _ (List.mem_append_left _ (List.mem_append_right _ h))))))))
  unfold w_X11_open at h
  show KW g 5 0 [(0, .q l0), (1, .i l1), (2, .i l2), (3, .i l3)] [] x
  refine k_aload_n o hb dX11_open_0 rfl 0 rfl ?_
  refine k_iload_n o hb dX11_open_1 rfl 1 rfl ?_
  refine k_iload_n o hb dX11_open_2 rfl 2 rfl ?_
  refine k_iload_n o hb dX11_open_3 rfl 3 rfl ?_
  refine k_run_v o (fun _ _ q => q) (k_runV (ci := 11) (rc := (RX11, TX11, 12)) o hb B.hml hown hts rfl (by decide) (T_X11_requireLook g.l o.hl g.D g.cA h.2) (cwV 3 hts gX11_open_X11_requireLook rfl rfl rfl (by decide +kernel) ⟨yle B.hR1 rfl, yle B.hR2 rfl⟩) h.1 rfl rfl (Nat.le_of_ble_eq_true rfl) dX11_open_4) (fun x1 h => ?_)
  refine k_aload_n o hb dX11_open_7 rfl 0 rfl ?_
  refine k_run_i o (fun _ _ q => q) (k_runV (ci := 11) (rc := (RX11, TX11, 12)) o hb B.hml hown hts rfl (by decide) (T_X11_freeCursor g.l o.hl g.D g.cA h.2) (cwV 0 hts gX11_open_X11_freeCursor rfl rfl rfl (by decide +kernel) ⟨yle B.hR1 rfl, yle B.hR2 rfl⟩) h.1 rfl rfl (Nat.le_of_ble_eq_true rfl) dX11_open_8) (fun v4 x3 h => ?_)
  refine k_istore o hb dX11_open_11 rfl ?_
  refine k_iload o hb dX11_open_13 0 rfl ?_
  refine k_iconst (v := (-1)) o hb dX11_open_15 (by decide) ?_
  refine k_icmp_ne (tgt := 29) o hb dX11_open_16 (by decide) h (fun h => ?_) (fun h => ?_)
  · skip
    refine k_throw (E := eIS) o (fun H locs cells slots mc ms ls XC hls hS hc1 hs1 hc2 hs2 hx9 => ?_) h
    obtain ⟨sa, hsa⟩ := o.hZ.2.2.2.2.2.2.1.2.2.2.2.2.2.2.2.1
    exact vx_throwS (cls := eIS) (names := eSup) (A := g.A) o.hx hb o.hl hown (by decide +kernel) (by decide +kernel) (hts (.classLink RX11 79 "java/lang/IllegalStateException") (by decide +kernel)) (hts (.initialized "java/lang/IllegalStateException") (by decide +kernel)) hsa (tx_at hts (fun w h => (List.mem_cons_of_mem _ (List.mem_append_left _ (List.mem_append_left _ (List.mem_append_right _ h))))) (by decide +kernel) o.hZ.2.2.2.1.2.2.1 o.hZ.2.2.2.2.2.2.2) (by decide +kernel) o.hZ.1 o.hZ.2.1 hS (hls.trans B.hml.symm) dX11_open_19 dX11_open_22 dX11_open_23 dX11_open_25 dX11_open_28 (fun x h => (o.htb x h).elim) (ylt B.hR1 rfl) (by rw [lq_cats]; exact yle B.hR2 rfl) hc1 hs1 o.hlk (fun t ha h1 h2 => hx9 t ha h1 h2) hS.2.2 hc2 hs2
  · skip
    refine k_aload_n o hb dX11_open_29 rfl 1 rfl ?_
    refine k_aload_n o hb dX11_open_30 rfl 1 rfl ?_
    refine k_getF (C := RX11) (T := TX11) (N := 12) o hb hts in11 hown rfl (by decide) 3 (by decide) rfl (hts (.fieldLink RX11 26 "FactKeeper" "cursors" "[LFactKeeper$Look;") (by decide +kernel)) (fun _ h9 => h9) dX11_open_31 h (fun v5 h => ?_)
    refine k_iload o hb dX11_open_34 0 rfl ?_
    refine k_aald (kd := 26) (t0 := 5) o hb rfl (by decide) dX11_open_36 h (fun v6 h => ?_)
    refine k_iload_n o hb dX11_open_37 rfl 2 rfl ?_
    refine k_iload_n o hb dX11_open_38 rfl 3 rfl ?_
    refine k_iload_n o hb dX11_open_39 rfl 4 rfl ?_
    refine k_run_v o (fun _ _ q => q) (k_runV (ci := 11) (rc := (RX11, TX11, 12)) o hb B.hml hown hts rfl (by decide) (T_X11_beginLook g.l o.hl g.D g.cA h.2) (cwV 4 hts gX11_open_X11_beginLook rfl rfl rfl (by decide +kernel) ⟨yle B.hR1 rfl, yle B.hR2 rfl⟩) h.1 rfl rfl (Nat.le_of_ble_eq_true rfl) dX11_open_40) (fun x7 h => ?_)
    refine k_aload_n o hb dX11_open_43 rfl 1 rfl ?_
    refine k_getF (C := RX11) (T := TX11) (N := 12) o hb hts in11 hown rfl (by decide) 4 (by decide) rfl (hts (.fieldLink RX11 30 "FactKeeper" "isOpen" "[Z") (by decide +kernel)) (fun _ h9 => h9) dX11_open_44 h (fun v9 h => ?_)
    refine k_iload o hb dX11_open_47 0 rfl ?_
    refine k_iconst (v := 1) o hb dX11_open_49 (by decide) ?_
    refine k_zast o hb dX11_open_50 h (fun x10 h => ?_)
    refine k_iload o hb dX11_open_51 0 rfl ?_
    exact k_iret o hb B.hr fr dX11_open_53 h
theorem dX11_requireOpen_0 : decode cX11_requireOpen 0 = .ok (.iload_n 1, 1) := by decide +kernel
theorem dX11_requireOpen_1 : decode cX11_requireOpen 1 = .ok (.iconst 0, 1) := by decide +kernel
theorem dX11_requireOpen_2 : decode cX11_requireOpen 2 = .ok (.bipush 9, 2) := by decide +kernel
theorem dX11_requireOpen_4 : decode cX11_requireOpen 4 = .ok (.invokestatic 71, 3) := by decide +kernel
theorem dX11_requireOpen_7 : decode cX11_requireOpen 7 = .ok (.aload_n 0, 1) := by decide +kernel
theorem dX11_requireOpen_8 : decode cX11_requireOpen 8 = .ok (.getfield 30, 3) := by decide +kernel
theorem dX11_requireOpen_11 : decode cX11_requireOpen 11 = .ok (.iload_n 1, 1) := by decide +kernel
theorem dX11_requireOpen_12 : decode cX11_requireOpen 12 = .ok (.baload, 1) := by decide +kernel
theorem dX11_requireOpen_13 : decode cX11_requireOpen 13 = .ok (.ifCond .ne 14, 3) := by decide +kernel
theorem dX11_requireOpen_16 : decode cX11_requireOpen 16 = .ok (.new 180, 3) := by decide +kernel
theorem dX11_requireOpen_19 : decode cX11_requireOpen 19 = .ok (.dup, 1) := by decide +kernel
theorem dX11_requireOpen_20 : decode cX11_requireOpen 20 = .ok (.ldc_w 332, 3) := by decide +kernel
theorem dX11_requireOpen_23 : decode cX11_requireOpen 23 = .ok (.invokespecial 184, 3) := by decide +kernel
theorem dX11_requireOpen_26 : decode cX11_requireOpen 26 = .ok (.athrow, 1) := by decide +kernel
theorem dX11_requireOpen_27 : decode cX11_requireOpen 27 = .ok (.return_, 1) := by decide +kernel
theorem i9wsX11_requireOpen_0 : ∀ w ∈ ([.classLink RX11 180 "java/util/NoSuchElementException", .initialized "java/util/NoSuchElementException", .fieldLink RX11 30 "FactKeeper" "isOpen" "[Z", .methodLink RX11 71 yX11_requireRange, .static yX11_requireRange, .initialized RX11, .code yX11_requireRange cX11_requireRange 3 none, .classLink RX11 336 "java/lang/IllegalArgumentException", .initialized "java/lang/IllegalArgumentException"] : List Cond), w ∈ wsX11_requireOpen := fun _ h => (List.mem_cons_of_mem _ (List.mem_append_left _ (List.mem_append_left _ (List.mem_append_left _ h))))
theorem i9wsX11_requireOpen_3 : ∀ w ∈ ((vx_atS RX11 340 "java/lang/IllegalArgumentException" ["java/lang/RuntimeException", "java/lang/Exception"]).filter goodWord), w ∈ wsX11_requireOpen := fun _ h => (List.mem_cons_of_mem _ (List.mem_append_right _ h))
set_option maxRecDepth 20000 in
theorem ggX11_requireOpen_X11_requireRange : GoodIn wsX11_requireOpen wsX11_requireRange := (gin_c (mem_at i9wsX11_requireOpen_0 6 rfl) rfl (goodIn_app (gin_c (mem_at i9wsX11_requireOpen_0 7 rfl) rfl (gin_c (mem_at i9wsX11_requireOpen_0 8 rfl) rfl gin_n)) (goodIn_sub i9wsX11_requireOpen_3 g9_14)))
set_option maxRecDepth 20000 in
theorem gX11_requireOpen_X11_requireRange : GoodIn wsX11_requireOpen (va_wsS RX11 71 yX11_requireRange wsX11_requireRange) := goodIn_app (gin_c (mem_at i9wsX11_requireOpen_0 3 rfl) rfl (gin_c (mem_at i9wsX11_requireOpen_0 4 rfl) rfl (gin_c (mem_at i9wsX11_requireOpen_0 5 rfl) rfl gin_n))) ggX11_requireOpen_X11_requireRange
set_option maxHeartbeats 4000000 in
set_option maxRecDepth 100000 in
theorem T_X11_requireOpen (l : Launch) (hl : l.stackTraces = false) (D : va_G) (cA : Nat → ClassId) {l0 : Option Nat} {l1 : Int32} {x : HS} {Q : HS → Prop} {X : String → HS → Prop} (h : w_X11_requireOpen l0 l1 x Q X) : YV l yX11_requireOpen wsX11_requireOpen 7 112 D cA [.q l0, .i l1] x Q X := by
  refine YV.of (cc := cX11_requireOpen) (maxL := 2) (ret := none) hl (by decide) rfl rfl (fun g B fr => ?_)
  have o := B.o
  have hb := B.hb
  have hts := B.hts
  have hown : g.s.vm.findClass RX11 = some g.m.cls := B.hown
  have in11 : ∀ w ∈ u_ws RX11 TX11 12, w ∈ wsX11_requireOpen := fun w h => (List.mem_cons_of_mem _ (List.mem_append_left _ (List.mem_append_left _ (List.mem_append_right _ h))))
  unfold w_X11_requireOpen at h
  show KW g 2 0 [(0, .q l0), (1, .i l1)] [] x
  refine k_iload_n o hb dX11_requireOpen_0 rfl 1 rfl ?_
  refine k_iconst (v := 0) o hb dX11_requireOpen_1 (by decide) ?_
  refine k_bipush (v := 9) o hb dX11_requireOpen_2 (by decide) ?_
  refine k_run_v o (fun _ _ q => q) (k_runS o hb B.hml hown hts (T_X11_requireRange g.l o.hl g.D g.cA h) (va_cwS 3 hts gX11_requireOpen_X11_requireRange rfl rfl rfl (by decide +kernel) ⟨yle B.hR1 rfl, yle B.hR2 rfl⟩) rfl rfl (Nat.le_of_ble_eq_true rfl) dX11_requireOpen_4) (fun x1 h => ?_)
  refine k_aload_n o hb dX11_requireOpen_7 rfl 0 rfl ?_
  refine k_getF (C := RX11) (T := TX11) (N := 12) o hb hts in11 hown rfl (by decide) 4 (by decide) rfl (hts (.fieldLink RX11 30 "FactKeeper" "isOpen" "[Z") (by decide +kernel)) (fun _ h9 => h9) dX11_requireOpen_8 h (fun v3 h => ?_)
  refine k_iload_n o hb dX11_requireOpen_11 rfl 1 rfl ?_
  refine k_zald o hb dX11_requireOpen_12 h (fun v4 h => ?_)
  refine k_if_ne (tgt := 27) o hb dX11_requireOpen_13 (by decide) h (fun h => ?_) (fun h => ?_)
  · skip
    refine k_throw (E := eNE) o (fun H locs cells slots mc ms ls XC hls hS hc1 hs1 hc2 hs2 hx9 => ?_) h
    obtain ⟨sa, hsa⟩ := o.hZ.2.2.2.2.2.2.1.2.2.2.2.2.2.2.2.2.1
    exact tn_throwSW (cls := eNE) (A := g.A) o.hx hb o.hl hown (by decide +kernel) (hts (.classLink RX11 180 "java/util/NoSuchElementException") (by decide +kernel)) (hts (.initialized "java/util/NoSuchElementException") (by decide +kernel)) hsa (tn_atw hts (fun w h => (List.mem_cons_of_mem _ (List.mem_append_left _ (List.mem_append_right _ h)))) (by decide +kernel) o.hZ.2.2.2.1.2.1 o.hZ.2.2.2.2.2.2.2) (by decide +kernel) o.hZ.1 o.hZ.2.1 hS (hls.trans B.hml.symm) dX11_requireOpen_16 dX11_requireOpen_19 dX11_requireOpen_20 dX11_requireOpen_23 dX11_requireOpen_26 (fun x h => (o.htb x h).elim) (ylt B.hR1 rfl) (by rw [lq_cats]; exact yle B.hR2 rfl) hc1 hs1 o.hlk (fun t ha h1 h2 => hx9 t ha h1 h2) hS.2.2 hc2 hs2
  · skip
    exact k_vret o hb B.hr fr dX11_requireOpen_27 h
theorem dX11_next_0 : decode cX11_next 0 = .ok (.aload_n 0, 1) := by decide +kernel
theorem dX11_next_1 : decode cX11_next 1 = .ok (.iload_n 1, 1) := by decide +kernel
theorem dX11_next_2 : decode cX11_next 2 = .ok (.invokevirtual 170, 3) := by decide +kernel
theorem dX11_next_5 : decode cX11_next 5 = .ok (.aload_n 0, 1) := by decide +kernel
theorem dX11_next_6 : decode cX11_next 6 = .ok (.getfield 26, 3) := by decide +kernel
theorem dX11_next_9 : decode cX11_next 9 = .ok (.iload_n 1, 1) := by decide +kernel
theorem dX11_next_10 : decode cX11_next 10 = .ok (.aaload, 1) := by decide +kernel
theorem dX11_next_11 : decode cX11_next 11 = .ok (.invokevirtual 154, 3) := by decide +kernel
theorem dX11_next_14 : decode cX11_next 14 = .ok (.astore_n 2, 1) := by decide +kernel
theorem dX11_next_15 : decode cX11_next 15 = .ok (.aload_n 0, 1) := by decide +kernel
theorem dX11_next_16 : decode cX11_next 16 = .ok (.aload_n 0, 1) := by decide +kernel
theorem dX11_next_17 : decode cX11_next 17 = .ok (.getfield 26, 3) := by decide +kernel
theorem dX11_next_20 : decode cX11_next 20 = .ok (.iload_n 1, 1) := by decide +kernel
theorem dX11_next_21 : decode cX11_next 21 = .ok (.aaload, 1) := by decide +kernel
theorem dX11_next_22 : decode cX11_next 22 = .ok (.invokevirtual 148, 3) := by decide +kernel
theorem dX11_next_25 : decode cX11_next 25 = .ok (.putfield 151, 3) := by decide +kernel
theorem dX11_next_28 : decode cX11_next 28 = .ok (.aload_n 2, 1) := by decide +kernel
theorem dX11_next_29 : decode cX11_next 29 = .ok (.invokestatic 158, 3) := by decide +kernel
theorem dX11_next_32 : decode cX11_next 32 = .ok (.ireturn, 1) := by decide +kernel
theorem i9wsX11_next_0 : ∀ w ∈ wsX11_next_r1, w ∈ wsX11_next := fun _ h => (List.mem_cons_of_mem _ (List.mem_append_left _ (List.mem_append_left _ (List.mem_append_left _ (List.mem_append_left _ (List.mem_append_left _ (List.mem_append_left _ (List.mem_append_left _ (List.mem_append_left _ (List.mem_append_left _ h))))))))))
theorem i9wsX11_next_3 : ∀ w ∈ wsX110, w ∈ wsX11_next := fun _ h => (List.mem_cons_of_mem _ (List.mem_append_left _ (List.mem_append_left _ (List.mem_append_left _ (List.mem_append_left _ (List.mem_append_left _ (List.mem_append_left _ (List.mem_append_left _ (List.mem_append_right _ h)))))))))
theorem i9wsX11_next_9 : ∀ w ∈ ((tn_at RX11 184 "java/util/NoSuchElementException").filter goodWord), w ∈ wsX11_next := fun _ h => (List.mem_cons_of_mem _ (List.mem_append_left _ (List.mem_append_right _ h)))
theorem i9wsX11_next_10 : ∀ w ∈ ((vx_atS RX11 340 "java/lang/IllegalArgumentException" ["java/lang/RuntimeException", "java/lang/Exception"]).filter goodWord), w ∈ wsX11_next := fun _ h => (List.mem_cons_of_mem _ (List.mem_append_right _ h))
set_option maxRecDepth 20000 in
theorem ggX11_next_X11_requireOpen : GoodIn wsX11_next wsX11_requireOpen := (gin_c (mem_at i9wsX11_next_0 6 rfl) rfl (goodIn_app (goodIn_app (goodIn_app (gin_c (mem_at i9wsX11_next_0 7 rfl) rfl (gin_c (mem_at i9wsX11_next_0 8 rfl) rfl (gin_c (mem_at i9wsX11_next_0 9 rfl) rfl (gin_c (mem_at i9wsX11_next_0 10 rfl) rfl (gin_c (mem_at i9wsX11_next_0 11 rfl) rfl (gin_c (mem_at i9wsX11_next_0 5 rfl) rfl (gin_c (mem_at i9wsX11_next_0 12 rfl) rfl (gin_c (mem_at i9wsX11_next_0 13 rfl) rfl (gin_c (mem_at i9wsX11_next_0 14 rfl) rfl gin_n))))))))) (goodIn_sub i9wsX11_next_3 g9_13)) (goodIn_sub i9wsX11_next_9 g9_15)) (goodIn_sub i9wsX11_next_10 g9_14)))
set_option maxRecDepth 20000 in
theorem gX11_next_X11_requireOpen : GoodIn wsX11_next (wsV RX11 170 RX11 yX11_requireOpen wsX11_requireOpen) := goodIn_app (gin_c (mem_at i9wsX11_next_0 2 rfl) rfl (gin_c (mem_at i9wsX11_next_0 3 rfl) rfl (gin_c (mem_at i9wsX11_next_0 4 rfl) rfl (gin_c (mem_at i9wsX11_next_0 5 rfl) rfl gin_n)))) ggX11_next_X11_requireOpen
theorem i9wsX11_next_1 : ∀ w ∈ wsX11_next_r2, w ∈ wsX11_next := fun _ h => (List.mem_cons_of_mem _ (List.mem_append_left _ (List.mem_append_left _ (List.mem_append_left _ (List.mem_append_left _ (List.mem_append_left _ (List.mem_append_left _ (List.mem_append_left _ (List.mem_append_left _ (List.mem_append_right _ (List.mem_append_left _ h)))))))))))
theorem i9wsX11_next_2 : ∀ w ∈ wsX11_next_r3, w ∈ wsX11_next := fun _ h => (List.mem_cons_of_mem _ (List.mem_append_left _ (List.mem_append_left _ (List.mem_append_left _ (List.mem_append_left _ (List.mem_append_left _ (List.mem_append_left _ (List.mem_append_left _ (List.mem_append_left _ (List.mem_append_right _ (List.mem_append_right _ h)))))))))))
theorem i9wsX11_next_4 : ∀ w ∈ wsX50, w ∈ wsX11_next := fun _ h => (List.mem_cons_of_mem _ (List.mem_append_left _ (List.mem_append_left _ (List.mem_append_left _ (List.mem_append_left _ (List.mem_append_left _ (List.mem_append_left _ (List.mem_append_right _ h))))))))
theorem i9wsX11_next_5 : ∀ w ∈ wsX10, w ∈ wsX11_next := fun _ h => (List.mem_cons_of_mem _ (List.mem_append_left _ (List.mem_append_left _ (List.mem_append_left _ (List.mem_append_left _ (List.mem_append_left _ (List.mem_append_right _ h)))))))
theorem i9wsX11_next_6 : ∀ w ∈ wsX100, w ∈ wsX11_next := fun _ h => (List.mem_cons_of_mem _ (List.mem_append_left _ (List.mem_append_left _ (List.mem_append_left _ (List.mem_append_left _ (List.mem_append_right _ h))))))
theorem i9wsX11_next_7 : ∀ w ∈ wsX00, w ∈ wsX11_next := fun _ h => (List.mem_cons_of_mem _ (List.mem_append_left _ (List.mem_append_left _ (List.mem_append_left _ (List.mem_append_right _ h)))))
theorem i9wsX11_next_8 : ∀ w ∈ wsX40, w ∈ wsX11_next := fun _ h => (List.mem_cons_of_mem _ (List.mem_append_left _ (List.mem_append_left _ (List.mem_append_right _ h))))
set_option maxRecDepth 20000 in
theorem ggX11_next_X5_advance : GoodIn wsX11_next wsX5_advance := (gin_c (mem_at i9wsX11_next_0 19 rfl) rfl (goodIn_app (goodIn_app (goodIn_app (goodIn_app (goodIn_app (goodIn_app (gin_c (mem_at i9wsX11_next_0 20 rfl) rfl (gin_c (mem_at i9wsX11_next_0 21 rfl) rfl (gin_c (mem_at i9wsX11_next_0 22 rfl) rfl (gin_c (mem_at i9wsX11_next_0 23 rfl) rfl (gin_c (mem_at i9wsX11_next_1 0 rfl) rfl (gin_c (mem_at i9wsX11_next_1 1 rfl) rfl (gin_c (mem_at i9wsX11_next_1 2 rfl) rfl (gin_c (mem_at i9wsX11_next_1 3 rfl) rfl (gin_c (mem_at i9wsX11_next_1 4 rfl) rfl (gin_c (mem_at i9wsX11_next_1 5 rfl) rfl (gin_c (mem_at i9wsX11_next_1 6 rfl) rfl (gin_c (mem_at i9wsX11_next_1 7 rfl) rfl (gin_c (mem_at i9wsX11_next_1 8 rfl) rfl (gin_c (mem_at i9wsX11_next_1 9 rfl) rfl (gin_c (mem_at i9wsX11_next_1 10 rfl) rfl (gin_c (mem_at i9wsX11_next_1 11 rfl) rfl (gin_c (mem_at i9wsX11_next_1 12 rfl) rfl (gin_c (mem_at i9wsX11_next_0 5 rfl) rfl (gin_c (mem_at i9wsX11_next_1 13 rfl) rfl (gin_c (mem_at i9wsX11_next_1 14 rfl) rfl (gin_c (mem_at i9wsX11_next_1 15 rfl) rfl (gin_c (mem_at i9wsX11_next_1 16 rfl) rfl (gin_c (mem_at i9wsX11_next_1 17 rfl) rfl (gin_c (mem_at i9wsX11_next_1 18 rfl) rfl gin_n)))))))))))))))))))))))) (gin_c (mem_at i9wsX11_next_1 19 rfl) rfl (gin_c (mem_at i9wsX11_next_1 20 rfl) rfl (gin_c (mem_at i9wsX11_next_1 21 rfl) rfl (gin_c (mem_at i9wsX11_next_1 22 rfl) rfl (gin_c (mem_at i9wsX11_next_1 23 rfl) rfl (gin_c (mem_at i9wsX11_next_2 0 rfl) rfl (gin_c (mem_at i9wsX11_next_2 1 rfl) rfl (gin_c (mem_at i9wsX11_next_2 2 rfl) rfl (gin_c (mem_at i9wsX11_next_2 3 rfl) rfl (gin_c (mem_at i9wsX11_next_2 4 rfl) rfl (gin_c (mem_at i9wsX11_next_2 5 rfl) rfl (gin_c (mem_at i9wsX11_next_2 6 rfl) rfl (gin_c (mem_at i9wsX11_next_2 7 rfl) rfl (gin_c (mem_at i9wsX11_next_2 8 rfl) rfl (gin_c (mem_at i9wsX11_next_2 9 rfl) rfl (gin_c (mem_at i9wsX11_next_2 10 rfl) rfl (gin_c (mem_at i9wsX11_next_2 11 rfl) rfl (gin_c (mem_at i9wsX11_next_2 12 rfl) rfl (gin_c (mem_at i9wsX11_next_2 13 rfl) rfl (gin_c (mem_at i9wsX11_next_2 14 rfl) rfl (gin_c (mem_at i9wsX11_next_2 15 rfl) rfl gin_n)))))))))))))))))))))) (goodIn_sub i9wsX11_next_4 g9_10)) (goodIn_sub i9wsX11_next_5 g9_0)) (goodIn_sub i9wsX11_next_6 g9_3)) (goodIn_sub i9wsX11_next_7 g9_1)) (goodIn_sub i9wsX11_next_8 g9_2)))
set_option maxRecDepth 20000 in
theorem gX11_next_X5_advance : GoodIn wsX11_next (wsV RX11 154 RX5 yX5_advance wsX5_advance) := goodIn_app (gin_c (mem_at i9wsX11_next_0 15 rfl) rfl (gin_c (mem_at i9wsX11_next_0 16 rfl) rfl (gin_c (mem_at i9wsX11_next_0 17 rfl) rfl (gin_c (mem_at i9wsX11_next_0 18 rfl) rfl gin_n)))) ggX11_next_X5_advance
set_option maxRecDepth 20000 in
theorem ggX11_next_X5_takeLookedAt : GoodIn wsX11_next wsX5_takeLookedAt := (gin_c (mem_at i9wsX11_next_2 19 rfl) rfl (goodIn_app (gin_c (mem_at i9wsX11_next_1 2 rfl) rfl gin_n) (goodIn_sub i9wsX11_next_4 g9_10)))
set_option maxRecDepth 20000 in
theorem gX11_next_X5_takeLookedAt : GoodIn wsX11_next (wsV RX11 148 RX5 yX5_takeLookedAt wsX5_takeLookedAt) := goodIn_app (gin_c (mem_at i9wsX11_next_2 16 rfl) rfl (gin_c (mem_at i9wsX11_next_2 17 rfl) rfl (gin_c (mem_at i9wsX11_next_2 18 rfl) rfl (gin_c (mem_at i9wsX11_next_0 18 rfl) rfl gin_n)))) ggX11_next_X5_takeLookedAt
set_option maxRecDepth 20000 in
theorem ggX11_next_X11_numberOf : GoodIn wsX11_next wsX11_numberOf := (gin_c (mem_at i9wsX11_next_2 22 rfl) rfl (goodIn_app (gin_c (mem_at i9wsX11_next_2 23 rfl) rfl gin_n) (goodIn_sub i9wsX11_next_5 g9_0)))
set_option maxRecDepth 20000 in
theorem gX11_next_X11_numberOf : GoodIn wsX11_next (va_wsS RX11 158 yX11_numberOf wsX11_numberOf) := goodIn_app (gin_c (mem_at i9wsX11_next_2 20 rfl) rfl (gin_c (mem_at i9wsX11_next_2 21 rfl) rfl (gin_c (mem_at i9wsX11_next_0 5 rfl) rfl gin_n))) ggX11_next_X11_numberOf
set_option maxHeartbeats 4000000 in
set_option maxRecDepth 100000 in
theorem T_X11_next (l : Launch) (hl : l.stackTraces = false) (D : va_G) (cA : Nat → ClassId) {l0 : Option Nat} {l1 : Int32} {x : HS} {Q : Int32 → HS → Prop} {X : String → HS → Prop} (h : w_X11_next l0 l1 x Q X) : YI l yX11_next wsX11_next 8 133 D cA [.q l0, .i l1] x Q X := by
  refine YI.of (cc := cX11_next) (maxL := 3) (ret := (some .int)) hl (by decide) rfl rfl (fun g B fr => ?_)
  have o := B.o
  have hb := B.hb
  have hts := B.hts
  have hown : g.s.vm.findClass RX11 = some g.m.cls := B.hown
  have in11 : ∀ w ∈ u_ws RX11 TX11 12, w ∈ wsX11_next := fun w h => (List.mem_cons_of_mem _ (List.mem_append_left _ (List.mem_append_left _ (List.mem_append_left _ (List.mem_append_left _ (List.mem_append_left _ (List.mem_append_left _ (List.mem_append_left _ (List.mem_append_right _ h)))))))))
  unfold w_X11_next at h
  show KW g 3 0 [(0, .q l0), (1, .i l1)] [] x
  refine k_aload_n o hb dX11_next_0 rfl 0 rfl ?_
  refine k_iload_n o hb dX11_next_1 rfl 1 rfl ?_
  refine k_run_v o (fun _ _ q => q) (k_runV (ci := 11) (rc := (RX11, TX11, 12)) o hb B.hml hown hts rfl (by decide) (T_X11_requireOpen g.l o.hl g.D g.cA h.2) (cwV 1 hts gX11_next_X11_requireOpen rfl rfl rfl (by decide +kernel) ⟨yle B.hR1 rfl, yle B.hR2 rfl⟩) h.1 rfl rfl (Nat.le_of_ble_eq_true rfl) dX11_next_2) (fun x1 h => ?_)
  refine k_aload_n o hb dX11_next_5 rfl 0 rfl ?_
  refine k_getF (C := RX11) (T := TX11) (N := 12) o hb hts in11 hown rfl (by decide) 3 (by decide) rfl (hts (.fieldLink RX11 26 "FactKeeper" "cursors" "[LFactKeeper$Look;") (by decide +kernel)) (fun _ h9 => h9) dX11_next_6 h (fun v3 h => ?_)
  refine k_iload_n o hb dX11_next_9 rfl 1 rfl ?_
  refine k_aald (kd := 26) (t0 := 5) o hb rfl (by decide) dX11_next_10 h (fun v4 h => ?_)
  refine k_run_q o (fun _ _ q => q) (k_runV (ci := 5) (rc := (RX5, TX5, 8)) o hb B.hml hown hts rfl (by decide) (T_X5_advance g.l o.hl g.D g.cA h.2) (cwV 0 hts gX11_next_X5_advance rfl rfl rfl (by decide +kernel) ⟨yle B.hR1 rfl, yle B.hR2 rfl⟩) h.1 rfl rfl (Nat.le_of_ble_eq_true rfl) dX11_next_11) (fun v6 x5 h => ?_)
  refine k_astore_n o hb dX11_next_14 rfl rfl ?_
  refine k_aload_n o hb dX11_next_15 rfl 1 rfl ?_
  refine k_aload_n o hb dX11_next_16 rfl 1 rfl ?_
  refine k_getF (C := RX11) (T := TX11) (N := 12) o hb hts in11 hown rfl (by decide) 3 (by decide) rfl (hts (.fieldLink RX11 26 "FactKeeper" "cursors" "[LFactKeeper$Look;") (by decide +kernel)) (fun _ h9 => h9) dX11_next_17 h (fun v7 h => ?_)
  refine k_iload_n o hb dX11_next_20 rfl 2 rfl ?_
  refine k_aald (kd := 26) (t0 := 5) o hb rfl (by decide) dX11_next_21 h (fun v8 h => ?_)
  refine k_run_i o (fun _ _ q => q) (k_runV (ci := 5) (rc := (RX5, TX5, 8)) o hb B.hml hown hts rfl (by decide) (T_X5_takeLookedAt g.l o.hl g.D g.cA h.2) (cwV 0 hts gX11_next_X5_takeLookedAt rfl rfl rfl (by decide +kernel) ⟨yle B.hR1 rfl, yle B.hR2 rfl⟩) h.1 rfl rfl (Nat.le_of_ble_eq_true rfl) dX11_next_22) (fun v10 x9 h => ?_)
  refine k_putI (C := RX11) (T := TX11) (N := 12) (ty := .int) o hb hts in11 tyX11 tyX11_ok nmX11 hown rfl (by decide) 11 (by decide) rfl (hts (.fieldLink RX11 151 "FactKeeper" "lookedAt" "I") (by decide +kernel)) (fun _ h9 => h9) rfl (by decide +kernel) (fun _ => rfl) (fun _ => rfl) dX11_next_25 h (fun x11 h => ?_)
  refine k_aload_n o hb dX11_next_28 rfl 0 rfl ?_
  refine k_run_i o (fun _ _ q => q) (k_runS o hb B.hml hown hts (T_X11_numberOf g.l o.hl g.D g.cA h) (va_cwS 1 hts gX11_next_X11_numberOf rfl rfl rfl (by decide +kernel) ⟨yle B.hR1 rfl, yle B.hR2 rfl⟩) rfl rfl (Nat.le_of_ble_eq_true rfl) dX11_next_29) (fun v13 x12 h => ?_)
  exact k_iret o hb B.hr fr dX11_next_32 h
theorem dX11_close_0 : decode cX11_close 0 = .ok (.aload_n 0, 1) := by decide +kernel
theorem dX11_close_1 : decode cX11_close 1 = .ok (.iload_n 1, 1) := by decide +kernel
theorem dX11_close_2 : decode cX11_close 2 = .ok (.invokevirtual 170, 3) := by decide +kernel
theorem dX11_close_5 : decode cX11_close 5 = .ok (.aload_n 0, 1) := by decide +kernel
theorem dX11_close_6 : decode cX11_close 6 = .ok (.getfield 30, 3) := by decide +kernel
theorem dX11_close_9 : decode cX11_close 9 = .ok (.iload_n 1, 1) := by decide +kernel
theorem dX11_close_10 : decode cX11_close 10 = .ok (.iconst 0, 1) := by decide +kernel
theorem dX11_close_11 : decode cX11_close 11 = .ok (.bastore, 1) := by decide +kernel
theorem dX11_close_12 : decode cX11_close 12 = .ok (.aload_n 0, 1) := by decide +kernel
theorem dX11_close_13 : decode cX11_close 13 = .ok (.getfield 26, 3) := by decide +kernel
theorem dX11_close_16 : decode cX11_close 16 = .ok (.iload_n 1, 1) := by decide +kernel
theorem dX11_close_17 : decode cX11_close 17 = .ok (.aaload, 1) := by decide +kernel
theorem dX11_close_18 : decode cX11_close 18 = .ok (.getfield 173, 3) := by decide +kernel
theorem dX11_close_21 : decode cX11_close 21 = .ok (.ireturn, 1) := by decide +kernel
theorem i9wsX11_close_0 : ∀ w ∈ ([.fieldLink RX11 30 "FactKeeper" "isOpen" "[Z", .fieldLink RX11 26 "FactKeeper" "cursors" "[LFactKeeper$Look;", .fieldLink RX11 173 "FactKeeper$Look" "told" "I", .methodLink RX11 170 yX11_requireOpen, .instanceMethod yX11_requireOpen, .selects RX11 yX11_requireOpen yX11_requireOpen, .initialized RX11, .code yX11_requireOpen cX11_requireOpen 2 none, .classLink RX11 180 "java/util/NoSuchElementException", .initialized "java/util/NoSuchElementException", .methodLink RX11 71 yX11_requireRange, .static yX11_requireRange, .code yX11_requireRange cX11_requireRange 3 none, .classLink RX11 336 "java/lang/IllegalArgumentException", .initialized "java/lang/IllegalArgumentException"] : List Cond), w ∈ wsX11_close := fun _ h => (List.mem_cons_of_mem _ (List.mem_append_left _ (List.mem_append_left _ (List.mem_append_left _ (List.mem_append_left _ h)))))
theorem i9wsX11_close_1 : ∀ w ∈ wsX110, w ∈ wsX11_close := fun _ h => (List.mem_cons_of_mem _ (List.mem_append_left _ (List.mem_append_left _ (List.mem_append_left _ (List.mem_append_right _ h)))))
theorem i9wsX11_close_3 : ∀ w ∈ ((tn_at RX11 184 "java/util/NoSuchElementException").filter goodWord), w ∈ wsX11_close := fun _ h => (List.mem_cons_of_mem _ (List.mem_append_left _ (List.mem_append_right _ h)))
theorem i9wsX11_close_4 : ∀ w ∈ ((vx_atS RX11 340 "java/lang/IllegalArgumentException" ["java/lang/RuntimeException", "java/lang/Exception"]).filter goodWord), w ∈ wsX11_close := fun _ h => (List.mem_cons_of_mem _ (List.mem_append_right _ h))
set_option maxRecDepth 20000 in
theorem ggX11_close_X11_requireOpen : GoodIn wsX11_close wsX11_requireOpen := (gin_c (mem_at i9wsX11_close_0 7 rfl) rfl (goodIn_app (goodIn_app (goodIn_app (gin_c (mem_at i9wsX11_close_0 8 rfl) rfl (gin_c (mem_at i9wsX11_close_0 9 rfl) rfl (gin_c (mem_at i9wsX11_close_0 0 rfl) rfl (gin_c (mem_at i9wsX11_close_0 10 rfl) rfl (gin_c (mem_at i9wsX11_close_0 11 rfl) rfl (gin_c (mem_at i9wsX11_close_0 6 rfl) rfl (gin_c (mem_at i9wsX11_close_0 12 rfl) rfl (gin_c (mem_at i9wsX11_close_0 13 rfl) rfl (gin_c (mem_at i9wsX11_close_0 14 rfl) rfl gin_n))))))))) (goodIn_sub i9wsX11_close_1 g9_13)) (goodIn_sub i9wsX11_close_3 g9_15)) (goodIn_sub i9wsX11_close_4 g9_14)))
set_option maxRecDepth 20000 in
theorem gX11_close_X11_requireOpen : GoodIn wsX11_close (wsV RX11 170 RX11 yX11_requireOpen wsX11_requireOpen) := goodIn_app (gin_c (mem_at i9wsX11_close_0 3 rfl) rfl (gin_c (mem_at i9wsX11_close_0 4 rfl) rfl (gin_c (mem_at i9wsX11_close_0 5 rfl) rfl (gin_c (mem_at i9wsX11_close_0 6 rfl) rfl gin_n)))) ggX11_close_X11_requireOpen
set_option maxHeartbeats 4000000 in
set_option maxRecDepth 100000 in
theorem T_X11_close (l : Launch) (hl : l.stackTraces = false) (D : va_G) (cA : Nat → ClassId) {l0 : Option Nat} {l1 : Int32} {x : HS} {Q : Int32 → HS → Prop} {X : String → HS → Prop} (h : w_X11_close l0 l1 x Q X) : YI l yX11_close wsX11_close 8 133 D cA [.q l0, .i l1] x Q X := by
  refine YI.of (cc := cX11_close) (maxL := 2) (ret := (some .int)) hl (by decide) rfl rfl (fun g B fr => ?_)
  have o := B.o
  have hb := B.hb
  have hts := B.hts
  have hown : g.s.vm.findClass RX11 = some g.m.cls := B.hown
  have in5 : ∀ w ∈ u_ws RX5 TX5 8, w ∈ wsX11_close := fun w h => (List.mem_cons_of_mem _ (List.mem_append_left _ (List.mem_append_left _ (List.mem_append_right _ h))))
  have in11 : ∀ w ∈ u_ws RX11 TX11 12, w ∈ wsX11_close := fun w h => (List.mem_cons_of_mem _ (List.mem_append_left _ (List.mem_append_left _ (List.mem_append_left _ (List.mem_append_right _ h)))))
  unfold w_X11_close at h
  show KW g 2 0 [(0, .q l0), (1, .i l1)] [] x
  refine k_aload_n o hb dX11_close_0 rfl 0 rfl ?_
  refine k_iload_n o hb dX11_close_1 rfl 1 rfl ?_
  refine k_run_v o (fun _ _ q => q) (k_runV (ci := 11) (rc := (RX11, TX11, 12)) o hb B.hml hown hts rfl (by decide) (T_X11_requireOpen g.l o.hl g.D g.cA h.2) (cwV 1 hts gX11_close_X11_requireOpen rfl rfl rfl (by decide +kernel) ⟨yle B.hR1 rfl, yle B.hR2 rfl⟩) h.1 rfl rfl (Nat.le_of_ble_eq_true rfl) dX11_close_2) (fun x1 h => ?_)
  refine k_aload_n o hb dX11_close_5 rfl 0 rfl ?_
  refine k_getF (C := RX11) (T := TX11) (N := 12) o hb hts in11 hown rfl (by decide) 4 (by decide) rfl (hts (.fieldLink RX11 30 "FactKeeper" "isOpen" "[Z") (by decide +kernel)) (fun _ h9 => h9) dX11_close_6 h (fun v3 h => ?_)
  refine k_iload_n o hb dX11_close_9 rfl 1 rfl ?_
  refine k_iconst (v := 0) o hb dX11_close_10 (by decide) ?_
  refine k_zast o hb dX11_close_11 h (fun x4 h => ?_)
  refine k_aload_n o hb dX11_close_12 rfl 0 rfl ?_
  refine k_getF (C := RX11) (T := TX11) (N := 12) o hb hts in11 hown rfl (by decide) 3 (by decide) rfl (hts (.fieldLink RX11 26 "FactKeeper" "cursors" "[LFactKeeper$Look;") (by decide +kernel)) (fun _ h9 => h9) dX11_close_13 h (fun v5 h => ?_)
  refine k_iload_n o hb dX11_close_16 rfl 1 rfl ?_
  refine k_aald (kd := 26) (t0 := 5) o hb rfl (by decide) dX11_close_17 h (fun v6 h => ?_)
  refine k_getI (C := RX5) (T := TX5) (N := 8) o hb hts in5 hown rfl (by decide) 0 (by decide) rfl (hts (.fieldLink RX11 173 "FactKeeper$Look" "told" "I") (by decide +kernel)) (fun _ h9 => h9) dX11_close_18 h (fun v7 h => ?_)
  exact k_iret o hb B.hr fr dX11_close_21 h
theorem dX11_fact_0 : decode cX11_fact 0 = .ok (.iload_n 2, 1) := by decide +kernel
theorem dX11_fact_1 : decode cX11_fact 1 = .ok (.iconst 0, 1) := by decide +kernel
theorem dX11_fact_2 : decode cX11_fact 2 = .ok (.bipush 7, 2) := by decide +kernel
theorem dX11_fact_4 : decode cX11_fact 4 = .ok (.invokestatic 71, 3) := by decide +kernel
theorem dX11_fact_7 : decode cX11_fact 7 = .ok (.aload_n 0, 1) := by decide +kernel
theorem dX11_fact_8 : decode cX11_fact 8 = .ok (.getfield 20, 3) := by decide +kernel
theorem dX11_fact_11 : decode cX11_fact 11 = .ok (.iload_n 1, 1) := by decide +kernel
theorem dX11_fact_12 : decode cX11_fact 12 = .ok (.invokevirtual 176, 3) := by decide +kernel
theorem dX11_fact_15 : decode cX11_fact 15 = .ok (.astore_n 3, 1) := by decide +kernel
theorem dX11_fact_16 : decode cX11_fact 16 = .ok (.aload_n 3, 1) := by decide +kernel
theorem dX11_fact_17 : decode cX11_fact 17 = .ok (.ifnonnull 13, 3) := by decide +kernel
theorem dX11_fact_20 : decode cX11_fact 20 = .ok (.new 180, 3) := by decide +kernel
theorem dX11_fact_23 : decode cX11_fact 23 = .ok (.dup, 1) := by decide +kernel
theorem dX11_fact_24 : decode cX11_fact 24 = .ok (.ldc 182, 2) := by decide +kernel
theorem dX11_fact_26 : decode cX11_fact 26 = .ok (.invokespecial 184, 3) := by decide +kernel
theorem dX11_fact_29 : decode cX11_fact 29 = .ok (.athrow, 1) := by decide +kernel
theorem dX11_fact_30 : decode cX11_fact 30 = .ok (.iload_n 2, 1) := by decide +kernel
theorem dX11_fact_31 : decode cX11_fact 31 = .ok (.tableswitch 59 4 7 #[29, 37, 42, 47], 29) := by decide +kernel
theorem dX11_fact_60 : decode cX11_fact 60 = .ok (.aload_n 3, 1) := by decide +kernel
theorem dX11_fact_61 : decode cX11_fact 61 = .ok (.getfield 185, 3) := by decide +kernel
theorem dX11_fact_64 : decode cX11_fact 64 = .ok (.getfield 189, 3) := by decide +kernel
theorem dX11_fact_67 : decode cX11_fact 67 = .ok (.ireturn, 1) := by decide +kernel
theorem dX11_fact_68 : decode cX11_fact 68 = .ok (.aload_n 3, 1) := by decide +kernel
theorem dX11_fact_69 : decode cX11_fact 69 = .ok (.getfield 190, 3) := by decide +kernel
theorem dX11_fact_72 : decode cX11_fact 72 = .ok (.ireturn, 1) := by decide +kernel
theorem dX11_fact_73 : decode cX11_fact 73 = .ok (.aload_n 3, 1) := by decide +kernel
theorem dX11_fact_74 : decode cX11_fact 74 = .ok (.getfield 193, 3) := by decide +kernel
theorem dX11_fact_77 : decode cX11_fact 77 = .ok (.ireturn, 1) := by decide +kernel
theorem dX11_fact_78 : decode cX11_fact 78 = .ok (.aload_n 3, 1) := by decide +kernel
theorem dX11_fact_79 : decode cX11_fact 79 = .ok (.getfield 185, 3) := by decide +kernel
theorem dX11_fact_82 : decode cX11_fact 82 = .ok (.getfield 196, 3) := by decide +kernel
theorem dX11_fact_85 : decode cX11_fact 85 = .ok (.aload_n 3, 1) := by decide +kernel
theorem dX11_fact_86 : decode cX11_fact 86 = .ok (.invokevirtual 200, 3) := by decide +kernel
theorem dX11_fact_89 : decode cX11_fact 89 = .ok (.ireturn, 1) := by decide +kernel
theorem dX11_fact_90 : decode cX11_fact 90 = .ok (.aload_n 3, 1) := by decide +kernel
theorem dX11_fact_91 : decode cX11_fact 91 = .ok (.getfield 205, 3) := by decide +kernel
theorem dX11_fact_94 : decode cX11_fact 94 = .ok (.iload_n 2, 1) := by decide +kernel
theorem dX11_fact_95 : decode cX11_fact 95 = .ok (.iaload, 1) := by decide +kernel
theorem dX11_fact_96 : decode cX11_fact 96 = .ok (.ireturn, 1) := by decide +kernel
theorem i9wsX11_fact_0 : ∀ w ∈ wsX11_fact_r1, w ∈ wsX11_fact := fun _ h => (List.mem_cons_of_mem _ (List.mem_append_left _ (List.mem_append_left _ (List.mem_append_left _ (List.mem_append_left _ (List.mem_append_left _ (List.mem_append_left _ (List.mem_append_left _ (List.mem_append_left _ h)))))))))
theorem i9wsX11_fact_8 : ∀ w ∈ ((vx_atS RX11 340 "java/lang/IllegalArgumentException" ["java/lang/RuntimeException", "java/lang/Exception"]).filter goodWord), w ∈ wsX11_fact := fun _ h => (List.mem_cons_of_mem _ (List.mem_append_right _ h))
set_option maxRecDepth 20000 in
theorem ggX11_fact_X11_requireRange : GoodIn wsX11_fact wsX11_requireRange := (gin_c (mem_at i9wsX11_fact_0 12 rfl) rfl (goodIn_app (gin_c (mem_at i9wsX11_fact_0 13 rfl) rfl (gin_c (mem_at i9wsX11_fact_0 14 rfl) rfl gin_n)) (goodIn_sub i9wsX11_fact_8 g9_14)))
set_option maxRecDepth 20000 in
theorem gX11_fact_X11_requireRange : GoodIn wsX11_fact (va_wsS RX11 71 yX11_requireRange wsX11_requireRange) := goodIn_app (gin_c (mem_at i9wsX11_fact_0 9 rfl) rfl (gin_c (mem_at i9wsX11_fact_0 10 rfl) rfl (gin_c (mem_at i9wsX11_fact_0 11 rfl) rfl gin_n))) ggX11_fact_X11_requireRange
theorem i9wsX11_fact_5 : ∀ w ∈ wsX90, w ∈ wsX11_fact := fun _ h => (List.mem_cons_of_mem _ (List.mem_append_left _ (List.mem_append_left _ (List.mem_append_left _ (List.mem_append_right _ h)))))
theorem i9wsX11_fact_3 : ∀ w ∈ wsX10, w ∈ wsX11_fact := fun _ h => (List.mem_cons_of_mem _ (List.mem_append_left _ (List.mem_append_left _ (List.mem_append_left _ (List.mem_append_left _ (List.mem_append_left _ (List.mem_append_right _ h)))))))
set_option maxRecDepth 20000 in
theorem ggX11_fact_X9_withNumber : GoodIn wsX11_fact wsX9_withNumber := (gin_c (mem_at i9wsX11_fact_0 19 rfl) rfl (goodIn_app (goodIn_app (gin_c (mem_at i9wsX11_fact_0 20 rfl) rfl (gin_c (mem_at i9wsX11_fact_0 21 rfl) rfl (gin_c (mem_at i9wsX11_fact_0 22 rfl) rfl gin_n))) (goodIn_sub i9wsX11_fact_5 g9_5)) (goodIn_sub i9wsX11_fact_3 g9_0)))
set_option maxRecDepth 20000 in
theorem gX11_fact_X9_withNumber : GoodIn wsX11_fact (wsV RX11 176 RX9 yX9_withNumber wsX9_withNumber) := goodIn_app (gin_c (mem_at i9wsX11_fact_0 15 rfl) rfl (gin_c (mem_at i9wsX11_fact_0 16 rfl) rfl (gin_c (mem_at i9wsX11_fact_0 17 rfl) rfl (gin_c (mem_at i9wsX11_fact_0 18 rfl) rfl gin_n)))) ggX11_fact_X9_withNumber
theorem i9wsX11_fact_1 : ∀ w ∈ wsX11_fact_r2, w ∈ wsX11_fact := fun _ h => (List.mem_cons_of_mem _ (List.mem_append_left _ (List.mem_append_left _ (List.mem_append_left _ (List.mem_append_left _ (List.mem_append_left _ (List.mem_append_left _ (List.mem_append_left _ (List.mem_append_right _ h)))))))))
theorem i9wsX11_fact_6 : ∀ w ∈ wsX00, w ∈ wsX11_fact := fun _ h => (List.mem_cons_of_mem _ (List.mem_append_left _ (List.mem_append_left _ (List.mem_append_right _ h))))
set_option maxRecDepth 20000 in
theorem ggX11_fact_X0_factsAhead : GoodIn wsX11_fact wsX0_factsAhead := (gin_c (mem_at i9wsX11_fact_1 3 rfl) rfl (goodIn_app (goodIn_app (gin_c (mem_at i9wsX11_fact_1 4 rfl) rfl (gin_c (mem_at i9wsX11_fact_1 5 rfl) rfl (gin_c (mem_at i9wsX11_fact_1 6 rfl) rfl gin_n))) (goodIn_sub i9wsX11_fact_6 g9_1)) (goodIn_sub i9wsX11_fact_3 g9_0)))
set_option maxRecDepth 20000 in
theorem gX11_fact_X0_factsAhead : GoodIn wsX11_fact (wsV RX11 200 RX0 yX0_factsAhead wsX0_factsAhead) := goodIn_app (gin_c (mem_at i9wsX11_fact_0 23 rfl) rfl (gin_c (mem_at i9wsX11_fact_1 0 rfl) rfl (gin_c (mem_at i9wsX11_fact_1 1 rfl) rfl (gin_c (mem_at i9wsX11_fact_1 2 rfl) rfl gin_n)))) ggX11_fact_X0_factsAhead
set_option maxHeartbeats 4000000 in
set_option maxRecDepth 100000 in
theorem T_X11_fact (l : Launch) (hl : l.stackTraces = false) (D : va_G) (cA : Nat → ClassId) {l0 : Option Nat} {l1 : Int32} {l2 : Int32} {x : HS} {Q : Int32 → HS → Prop} {X : String → HS → Prop} (h : w_X11_fact l0 l1 l2 x Q X) : YI l yX11_fact wsX11_fact 7 112 D cA [.q l0, .i l1, .i l2] x Q X := by
  refine YI.of (cc := cX11_fact) (maxL := 4) (ret := (some .int)) hl (by decide) rfl rfl (fun g B fr => ?_)
  have o := B.o
  have hb := B.hb
  have hts := B.hts
  have hown : g.s.vm.findClass RX11 = some g.m.cls := B.hown
  have in1 : ∀ w ∈ u_ws RX1 TX1 7, w ∈ wsX11_fact := fun w h => (List.mem_cons_of_mem _ (List.mem_append_left _ (List.mem_append_left _ (List.mem_append_left _ (List.mem_append_left _ (List.mem_append_left _ (List.mem_append_right _ h)))))))
  have in10 : ∀ w ∈ u_ws RX10 TX10 6, w ∈ wsX11_fact := fun w h => (List.mem_cons_of_mem _ (List.mem_append_left _ (List.mem_append_left _ (List.mem_append_left _ (List.mem_append_left _ (List.mem_append_right _ h))))))
  have in11 : ∀ w ∈ u_ws RX11 TX11 12, w ∈ wsX11_fact := fun w h => (List.mem_cons_of_mem _ (List.mem_append_left _ (List.mem_append_left _ (List.mem_append_left _ (List.mem_append_left _ (List.mem_append_left _ (List.mem_append_left _ (List.mem_append_right _ h))))))))
  unfold w_X11_fact at h
  show KW g 4 0 [(0, .q l0), (1, .i l1), (2, .i l2)] [] x
  refine k_iload_n o hb dX11_fact_0 rfl 2 rfl ?_
  refine k_iconst (v := 0) o hb dX11_fact_1 (by decide) ?_
  refine k_bipush (v := 7) o hb dX11_fact_2 (by decide) ?_
  refine k_run_v o (fun _ _ q => q) (k_runS o hb B.hml hown hts (T_X11_requireRange g.l o.hl g.D g.cA h) (va_cwS 3 hts gX11_fact_X11_requireRange rfl rfl rfl (by decide +kernel) ⟨yle B.hR1 rfl, yle B.hR2 rfl⟩) rfl rfl (Nat.le_of_ble_eq_true rfl) dX11_fact_4) (fun x1 h => ?_)
  refine k_aload_n o hb dX11_fact_7 rfl 0 rfl ?_
  refine k_getF (C := RX11) (T := TX11) (N := 12) o hb hts in11 hown rfl (by decide) 2 (by decide) rfl (hts (.fieldLink RX11 20 "FactKeeper" "store" "LFactKeeper$Store;") (by decide +kernel)) (fun _ h9 => h9) dX11_fact_8 h (fun v3 h => ?_)
  refine k_iload_n o hb dX11_fact_11 rfl 1 rfl ?_
  refine k_run_q o (fun _ _ q => q) (k_runV (ci := 9) (rc := (RX9, TX9, 8)) o hb B.hml hown hts rfl (by decide) (T_X9_withNumber g.l o.hl g.D g.cA h.2) (cwV 1 hts gX11_fact_X9_withNumber rfl rfl rfl (by decide +kernel) ⟨yle B.hR1 rfl, yle B.hR2 rfl⟩) h.1 rfl rfl (Nat.le_of_ble_eq_true rfl) dX11_fact_12) (fun v5 x4 h => ?_)
  refine k_astore_n o hb dX11_fact_15 rfl rfl ?_
  refine k_aload_n o hb dX11_fact_16 rfl 0 rfl ?_
  refine k_ifnonnull (tgt := 30) o hb dX11_fact_17 (by decide) h (fun h => ?_) (fun h => ?_)
  · skip
    refine k_throw (E := eNE) o (fun H locs cells slots mc ms ls XC hls hS hc1 hs1 hc2 hs2 hx9 => ?_) h
    obtain ⟨sa, hsa⟩ := o.hZ.2.2.2.2.2.2.1.2.2.2.2.2.2.2.2.2.2.1
    exact tn_throwS (cls := eNE) (A := g.A) o.hx hb o.hl hown (by decide +kernel) (hts (.classLink RX11 180 "java/util/NoSuchElementException") (by decide +kernel)) (hts (.initialized "java/util/NoSuchElementException") (by decide +kernel)) hsa (tn_atw hts (fun w h => (List.mem_cons_of_mem _ (List.mem_append_left _ (List.mem_append_right _ h)))) (by decide +kernel) o.hZ.2.2.2.1.2.1 o.hZ.2.2.2.2.2.2.2) (by decide +kernel) o.hZ.1 o.hZ.2.1 hS (hls.trans B.hml.symm) dX11_fact_20 dX11_fact_23 dX11_fact_24 dX11_fact_26 dX11_fact_29 (fun x h => (o.htb x h).elim) (ylt B.hR1 rfl) (by rw [lq_cats]; exact yle B.hR2 rfl) hc1 hs1 o.hlk (fun t ha h1 h2 => hx9 t ha h1 h2) hS.2.2 hc2 hs2
  · skip
    refine k_iload_n o hb dX11_fact_30 rfl 3 rfl ?_
    rcases Decidable.em (l2 = 4) with c4 | c4
    · skip
      have h := h.1 c4
      refine k_tableIn (w := 4) (off := 29) (tgt := 60) o hb dX11_fact_31 c4 (by decide) (by decide) (by decide) (by decide) ?_
      refine k_aload_n o hb dX11_fact_60 rfl 0 rfl ?_
      refine k_getF (C := RX1) (T := TX1) (N := 7) o hb hts in1 hown rfl (by decide) 2 (by decide) rfl (hts (.fieldLink RX11 185 "FactKeeper$Fact" "table" "LFactKeeper$Table;") (by decide +kernel)) (fun _ h9 => h9) dX11_fact_61 h (fun v6 h => ?_)
      refine k_getI (C := RX10) (T := TX10) (N := 6) o hb hts in10 hown rfl (by decide) 0 (by decide) rfl (hts (.fieldLink RX11 189 "FactKeeper$Table" "number" "I") (by decide +kernel)) (fun _ h9 => h9) dX11_fact_64 h (fun v7 h => ?_)
      exact k_iret o hb B.hr fr dX11_fact_67 h
    · skip
      have h := h.2 c4
      rcases Decidable.em (l2 = 5) with c5 | c5
      · skip
        have h := h.1 c5
        refine k_tableIn (w := 5) (off := 37) (tgt := 68) o hb dX11_fact_31 c5 (by decide) (by decide) (by decide) (by decide) ?_
        refine k_aload_n o hb dX11_fact_68 rfl 0 rfl ?_
        refine k_getI (C := RX1) (T := TX1) (N := 7) o hb hts in1 hown rfl (by decide) 5 (by decide) rfl (hts (.fieldLink RX11 190 "FactKeeper$Fact" "born" "I") (by decide +kernel)) (fun _ h9 => h9) dX11_fact_69 h (fun v8 h => ?_)
        exact k_iret o hb B.hr fr dX11_fact_72 h
      · skip
        have h := h.2 c5
        rcases Decidable.em (l2 = 6) with c6 | c6
        · skip
          have h := h.1 c6
          refine k_tableIn (w := 6) (off := 42) (tgt := 73) o hb dX11_fact_31 c6 (by decide) (by decide) (by decide) (by decide) ?_
          refine k_aload_n o hb dX11_fact_73 rfl 0 rfl ?_
          refine k_getI (C := RX1) (T := TX1) (N := 7) o hb hts in1 hown rfl (by decide) 6 (by decide) rfl (hts (.fieldLink RX11 193 "FactKeeper$Fact" "died" "I") (by decide +kernel)) (fun _ h9 => h9) dX11_fact_74 h (fun v9 h => ?_)
          exact k_iret o hb B.hr fr dX11_fact_77 h
        · skip
          have h := h.2 c6
          rcases Decidable.em (l2 = 7) with c7 | c7
          · skip
            have h := h.1 c7
            refine k_tableIn (w := 7) (off := 47) (tgt := 78) o hb dX11_fact_31 c7 (by decide) (by decide) (by decide) (by decide) ?_
            refine k_aload_n o hb dX11_fact_78 rfl 0 rfl ?_
            refine k_getF (C := RX1) (T := TX1) (N := 7) o hb hts in1 hown rfl (by decide) 2 (by decide) rfl (hts (.fieldLink RX11 185 "FactKeeper$Fact" "table" "LFactKeeper$Table;") (by decide +kernel)) (fun _ h9 => h9) dX11_fact_79 h (fun v10 h => ?_)
            refine k_getF (C := RX10) (T := TX10) (N := 6) o hb hts in10 hown rfl (by decide) 2 (by decide) rfl (hts (.fieldLink RX11 196 "FactKeeper$Table" "row" "LFactKeeper$Chain;") (by decide +kernel)) (fun _ h9 => h9) dX11_fact_82 h (fun v11 h => ?_)
            refine k_aload_n o hb dX11_fact_85 rfl 0 rfl ?_
            refine k_run_i o (fun _ _ q => q) (k_runV (ci := 0) (rc := (RX0, TX0, 5)) o hb B.hml hown hts rfl (by decide) (T_X0_factsAhead g.l o.hl g.D g.cA h.2) (cwV 1 hts gX11_fact_X0_factsAhead rfl rfl rfl (by decide +kernel) ⟨yle B.hR1 rfl, yle B.hR2 rfl⟩) h.1 rfl rfl (Nat.le_of_ble_eq_true rfl) dX11_fact_86) (fun v13 x12 h => ?_)
            exact k_iret o hb B.hr fr dX11_fact_89 h
          · skip
            have h := h.2 c7
            refine k_tableOut (tgt := 90) o hb dX11_fact_31 (by have e4 := lv_neT (a := 4) c4 (by decide); have e5 := lv_neT (a := 5) c5 (by decide); have e6 := lv_neT (a := 6) c6 (by decide); have e7 := lv_neT (a := 7) c7 (by decide); omega) (by decide) ?_
            refine k_aload_n o hb dX11_fact_90 rfl 0 rfl ?_
            refine k_getF (C := RX1) (T := TX1) (N := 7) o hb hts in1 hown rfl (by decide) 0 (by decide) rfl (hts (.fieldLink RX11 205 "FactKeeper$Fact" "columns" "[I") (by decide +kernel)) (fun _ h9 => h9) dX11_fact_91 h (fun v14 h => ?_)
            refine k_iload_n o hb dX11_fact_94 rfl 3 rfl ?_
            refine k_iald o hb dX11_fact_95 h (fun v15 h => ?_)
            exact k_iret o hb B.hr fr dX11_fact_96 h
theorem dX11_mark_0 : decode cX11_mark 0 = .ok (.aload_n 0, 1) := by decide +kernel
theorem dX11_mark_1 : decode cX11_mark 1 = .ok (.getfield 20, 3) := by decide +kernel
theorem dX11_mark_4 : decode cX11_mark 4 = .ok (.getfield 207, 3) := by decide +kernel
theorem dX11_mark_7 : decode cX11_mark 7 = .ok (.invokevirtual 211, 3) := by decide +kernel
theorem dX11_mark_10 : decode cX11_mark 10 = .ok (.ifCond .ne 13, 3) := by decide +kernel
theorem dX11_mark_13 : decode cX11_mark 13 = .ok (.new 79, 3) := by decide +kernel
theorem dX11_mark_16 : decode cX11_mark 16 = .ok (.dup, 1) := by decide +kernel
theorem dX11_mark_17 : decode cX11_mark 17 = .ok (.ldc 217, 2) := by decide +kernel
theorem dX11_mark_19 : decode cX11_mark 19 = .ok (.invokespecial 83, 3) := by decide +kernel
theorem dX11_mark_22 : decode cX11_mark 22 = .ok (.athrow, 1) := by decide +kernel
theorem dX11_mark_23 : decode cX11_mark 23 = .ok (.aload_n 0, 1) := by decide +kernel
theorem dX11_mark_24 : decode cX11_mark 24 = .ok (.getfield 20, 3) := by decide +kernel
theorem dX11_mark_27 : decode cX11_mark 27 = .ok (.getfield 207, 3) := by decide +kernel
theorem dX11_mark_30 : decode cX11_mark 30 = .ok (.getfield 219, 3) := by decide +kernel
theorem dX11_mark_33 : decode cX11_mark 33 = .ok (.ireturn, 1) := by decide +kernel
theorem i9wsX11_mark_0 : ∀ w ∈ ([.classLink RX11 79 "java/lang/IllegalStateException", .initialized "java/lang/IllegalStateException", .fieldLink RX11 20 "FactKeeper" "store" "LFactKeeper$Store;", .fieldLink RX11 207 "FactKeeper$Store" "history" "LFactKeeper$History;", .fieldLink RX11 219 "FactKeeper$History" "markCount" "I", .methodLink RX11 211 yX3_makeMark, .instanceMethod yX3_makeMark, .selects RX3 yX3_makeMark yX3_makeMark, .initialized RX3, .code yX3_makeMark cX3_makeMark 1 (some .boolean), .fieldLink RX3 25 "FactKeeper$History" "markCount" "I", .fieldLink RX3 21 "FactKeeper$History" "marks" "[I", .fieldLink RX3 29 "FactKeeper$History" "size" "I"] : List Cond), w ∈ wsX11_mark := fun _ h => (List.mem_cons_of_mem _ (List.mem_append_left _ (List.mem_append_left _ (List.mem_append_left _ (List.mem_append_left _ h)))))
theorem i9wsX11_mark_3 : ∀ w ∈ wsX30, w ∈ wsX11_mark := fun _ h => (List.mem_cons_of_mem _ (List.mem_append_left _ (List.mem_append_right _ h)))
set_option maxRecDepth 20000 in
theorem ggX11_mark_X3_makeMark : GoodIn wsX11_mark wsX3_makeMark := (gin_c (mem_at i9wsX11_mark_0 9 rfl) rfl (goodIn_app (gin_c (mem_at i9wsX11_mark_0 10 rfl) rfl (gin_c (mem_at i9wsX11_mark_0 11 rfl) rfl (gin_c (mem_at i9wsX11_mark_0 12 rfl) rfl gin_n))) (goodIn_sub i9wsX11_mark_3 g9_4)))
set_option maxRecDepth 20000 in
theorem gX11_mark_X3_makeMark : GoodIn wsX11_mark (wsV RX11 211 RX3 yX3_makeMark wsX3_makeMark) := goodIn_app (gin_c (mem_at i9wsX11_mark_0 5 rfl) rfl (gin_c (mem_at i9wsX11_mark_0 6 rfl) rfl (gin_c (mem_at i9wsX11_mark_0 7 rfl) rfl (gin_c (mem_at i9wsX11_mark_0 8 rfl) rfl gin_n)))) ggX11_mark_X3_makeMark
set_option maxHeartbeats 4000000 in
set_option maxRecDepth 100000 in
theorem T_X11_mark (l : Launch) (hl : l.stackTraces = false) (D : va_G) (cA : Nat → ClassId) {l0 : Option Nat} {x : HS} {Q : Int32 → HS → Prop} {X : String → HS → Prop} (h : w_X11_mark l0 x Q X) : YI l yX11_mark wsX11_mark 6 90 D cA [.q l0] x Q X := by
  refine YI.of (cc := cX11_mark) (maxL := 1) (ret := (some .int)) hl (by decide) rfl rfl (fun g B fr => ?_)
  have o := B.o
  have hb := B.hb
  have hts := B.hts
  have hown : g.s.vm.findClass RX11 = some g.m.cls := B.hown
  have in3 : ∀ w ∈ u_ws RX3 TX3 5, w ∈ wsX11_mark := fun w h => (List.mem_cons_of_mem _ (List.mem_append_left _ (List.mem_append_right _ h)))
  have in9 : ∀ w ∈ u_ws RX9 TX9 8, w ∈ wsX11_mark := fun w h => (List.mem_cons_of_mem _ (List.mem_append_left _ (List.mem_append_left _ (List.mem_append_right _ h))))
  have in11 : ∀ w ∈ u_ws RX11 TX11 12, w ∈ wsX11_mark := fun w h => (List.mem_cons_of_mem _ (List.mem_append_left _ (List.mem_append_left _ (List.mem_append_left _ (List.mem_append_right _ h)))))
  unfold w_X11_mark at h
  show KW g 1 0 [(0, .q l0)] [] x
  refine k_aload_n o hb dX11_mark_0 rfl 0 rfl ?_
  refine k_getF (C := RX11) (T := TX11) (N := 12) o hb hts in11 hown rfl (by decide) 2 (by decide) rfl (hts (.fieldLink RX11 20 "FactKeeper" "store" "LFactKeeper$Store;") (by decide +kernel)) (fun _ h9 => h9) dX11_mark_1 h (fun v1 h => ?_)
  refine k_getF (C := RX9) (T := TX9) (N := 8) o hb hts in9 hown rfl (by decide) 2 (by decide) rfl (hts (.fieldLink RX11 207 "FactKeeper$Store" "history" "LFactKeeper$History;") (by decide +kernel)) (fun _ h9 => h9) dX11_mark_4 h (fun v2 h => ?_)
  refine k_run_i o (fun _ _ q => q) (k_runV (ci := 3) (rc := (RX3, TX3, 5)) o hb B.hml hown hts rfl (by decide) (T_X3_makeMark g.l o.hl g.D g.cA h.2) (cwV 0 hts gX11_mark_X3_makeMark rfl rfl rfl (by decide +kernel) ⟨yle B.hR1 rfl, yle B.hR2 rfl⟩) h.1 rfl rfl (Nat.le_of_ble_eq_true rfl) dX11_mark_7) (fun v4 x3 h => ?_)
  refine k_if_ne (tgt := 23) o hb dX11_mark_10 (by decide) h (fun h => ?_) (fun h => ?_)
  · skip
    refine k_throw (E := eIS) o (fun H locs cells slots mc ms ls XC hls hS hc1 hs1 hc2 hs2 hx9 => ?_) h
    obtain ⟨sa, hsa⟩ := o.hZ.2.2.2.2.2.2.1.2.2.2.2.2.2.2.2.2.2.2.1
    exact vx_throwS (cls := eIS) (names := eSup) (A := g.A) o.hx hb o.hl hown (by decide +kernel) (by decide +kernel) (hts (.classLink RX11 79 "java/lang/IllegalStateException") (by decide +kernel)) (hts (.initialized "java/lang/IllegalStateException") (by decide +kernel)) hsa (tx_at hts (fun w h => (List.mem_cons_of_mem _ (List.mem_append_right _ h))) (by decide +kernel) o.hZ.2.2.2.1.2.2.1 o.hZ.2.2.2.2.2.2.2) (by decide +kernel) o.hZ.1 o.hZ.2.1 hS (hls.trans B.hml.symm) dX11_mark_13 dX11_mark_16 dX11_mark_17 dX11_mark_19 dX11_mark_22 (fun x h => (o.htb x h).elim) (ylt B.hR1 rfl) (by rw [lq_cats]; exact yle B.hR2 rfl) hc1 hs1 o.hlk (fun t ha h1 h2 => hx9 t ha h1 h2) hS.2.2 hc2 hs2
  · skip
    refine k_aload_n o hb dX11_mark_23 rfl 0 rfl ?_
    refine k_getF (C := RX11) (T := TX11) (N := 12) o hb hts in11 hown rfl (by decide) 2 (by decide) rfl (hts (.fieldLink RX11 20 "FactKeeper" "store" "LFactKeeper$Store;") (by decide +kernel)) (fun _ h9 => h9) dX11_mark_24 h (fun v5 h => ?_)
    refine k_getF (C := RX9) (T := TX9) (N := 8) o hb hts in9 hown rfl (by decide) 2 (by decide) rfl (hts (.fieldLink RX11 207 "FactKeeper$Store" "history" "LFactKeeper$History;") (by decide +kernel)) (fun _ h9 => h9) dX11_mark_27 h (fun v6 h => ?_)
    refine k_getI (C := RX3) (T := TX3) (N := 5) o hb hts in3 hown rfl (by decide) 4 (by decide) rfl (hts (.fieldLink RX11 219 "FactKeeper$History" "markCount" "I") (by decide +kernel)) (fun _ h9 => h9) dX11_mark_30 h (fun v7 h => ?_)
    exact k_iret o hb B.hr fr dX11_mark_33 h
theorem dX11_back_0 : decode cX11_back 0 = .ok (.aload_n 0, 1) := by decide +kernel
theorem dX11_back_1 : decode cX11_back 1 = .ok (.getfield 20, 3) := by decide +kernel
theorem dX11_back_4 : decode cX11_back 4 = .ok (.getfield 207, 3) := by decide +kernel
theorem dX11_back_7 : decode cX11_back 7 = .ok (.getfield 219, 3) := by decide +kernel
theorem dX11_back_10 : decode cX11_back 10 = .ok (.ifCond .ne 13, 3) := by decide +kernel
theorem dX11_back_13 : decode cX11_back 13 = .ok (.new 79, 3) := by decide +kernel
theorem dX11_back_16 : decode cX11_back 16 = .ok (.dup, 1) := by decide +kernel
theorem dX11_back_17 : decode cX11_back 17 = .ok (.ldc 222, 2) := by decide +kernel
theorem dX11_back_19 : decode cX11_back 19 = .ok (.invokespecial 83, 3) := by decide +kernel
theorem dX11_back_22 : decode cX11_back 22 = .ok (.athrow, 1) := by decide +kernel
theorem dX11_back_23 : decode cX11_back 23 = .ok (.iload_n 1, 1) := by decide +kernel
theorem dX11_back_24 : decode cX11_back 24 = .ok (.ifCond .eq 23, 3) := by decide +kernel
theorem dX11_back_27 : decode cX11_back 27 = .ok (.aload_n 0, 1) := by decide +kernel
theorem dX11_back_28 : decode cX11_back 28 = .ok (.getfield 20, 3) := by decide +kernel
theorem dX11_back_31 : decode cX11_back 31 = .ok (.invokevirtual 224, 3) := by decide +kernel
theorem dX11_back_34 : decode cX11_back 34 = .ok (.ifCond .ne 13, 3) := by decide +kernel
theorem dX11_back_37 : decode cX11_back 37 = .ok (.new 79, 3) := by decide +kernel
theorem dX11_back_40 : decode cX11_back 40 = .ok (.dup, 1) := by decide +kernel
theorem dX11_back_41 : decode cX11_back 41 = .ok (.ldc 127, 2) := by decide +kernel
theorem dX11_back_43 : decode cX11_back 43 = .ok (.invokespecial 83, 3) := by decide +kernel
theorem dX11_back_46 : decode cX11_back 46 = .ok (.athrow, 1) := by decide +kernel
theorem dX11_back_47 : decode cX11_back 47 = .ok (.aload_n 0, 1) := by decide +kernel
theorem dX11_back_48 : decode cX11_back 48 = .ok (.getfield 20, 3) := by decide +kernel
theorem dX11_back_51 : decode cX11_back 51 = .ok (.getfield 207, 3) := by decide +kernel
theorem dX11_back_54 : decode cX11_back 54 = .ok (.invokevirtual 227, 3) := by decide +kernel
theorem dX11_back_57 : decode cX11_back 57 = .ok (.istore_n 2, 1) := by decide +kernel
theorem dX11_back_58 : decode cX11_back 58 = .ok (.iload_n 1, 1) := by decide +kernel
theorem dX11_back_59 : decode cX11_back 59 = .ok (.ifCond .eq 14, 3) := by decide +kernel
theorem dX11_back_62 : decode cX11_back 62 = .ok (.aload_n 0, 1) := by decide +kernel
theorem dX11_back_63 : decode cX11_back 63 = .ok (.getfield 20, 3) := by decide +kernel
theorem dX11_back_66 : decode cX11_back 66 = .ok (.iload_n 2, 1) := by decide +kernel
theorem dX11_back_67 : decode cX11_back 67 = .ok (.invokevirtual 230, 3) := by decide +kernel
theorem dX11_back_70 : decode cX11_back 70 = .ok (.goto 4, 3) := by decide +kernel
theorem dX11_back_73 : decode cX11_back 73 = .ok (.iconst 0, 1) := by decide +kernel
theorem dX11_back_74 : decode cX11_back 74 = .ok (.istore_n 3, 1) := by decide +kernel
theorem dX11_back_75 : decode cX11_back 75 = .ok (.aload_n 0, 1) := by decide +kernel
theorem dX11_back_76 : decode cX11_back 76 = .ok (.getfield 20, 3) := by decide +kernel
theorem dX11_back_79 : decode cX11_back 79 = .ok (.getfield 207, 3) := by decide +kernel
theorem dX11_back_82 : decode cX11_back 82 = .ok (.invokevirtual 233, 3) := by decide +kernel
theorem dX11_back_85 : decode cX11_back 85 = .ok (.iload_n 3, 1) := by decide +kernel
theorem dX11_back_86 : decode cX11_back 86 = .ok (.ireturn, 1) := by decide +kernel
theorem i9wsX11_back_0 : ∀ w ∈ wsX11_back_r1, w ∈ wsX11_back := fun _ h => (List.mem_cons_of_mem _ (List.mem_append_left _ (List.mem_append_left _ (List.mem_append_left _ (List.mem_append_left _ (List.mem_append_left _ (List.mem_append_left _ (List.mem_append_left _ (List.mem_append_left _ (List.mem_append_left _ h))))))))))
theorem i9wsX11_back_6 : ∀ w ∈ wsX90, w ∈ wsX11_back := fun _ h => (List.mem_cons_of_mem _ (List.mem_append_left _ (List.mem_append_left _ (List.mem_append_left _ (List.mem_append_left _ (List.mem_append_left _ (List.mem_append_left _ (List.mem_append_right _ h))))))))
theorem i9wsX11_back_7 : ∀ w ∈ wsX30, w ∈ wsX11_back := fun _ h => (List.mem_cons_of_mem _ (List.mem_append_left _ (List.mem_append_left _ (List.mem_append_left _ (List.mem_append_left _ (List.mem_append_left _ (List.mem_append_right _ h)))))))
set_option maxRecDepth 20000 in
theorem ggX11_back_X9_hasRoomToTurn : GoodIn wsX11_back wsX9_hasRoomToTurn := (gin_c (mem_at i9wsX11_back_0 9 rfl) rfl (goodIn_app (goodIn_app (gin_c (mem_at i9wsX11_back_0 10 rfl) rfl (gin_c (mem_at i9wsX11_back_0 11 rfl) rfl (gin_c (mem_at i9wsX11_back_0 12 rfl) rfl (gin_c (mem_at i9wsX11_back_0 13 rfl) rfl (gin_c (mem_at i9wsX11_back_0 14 rfl) rfl (gin_c (mem_at i9wsX11_back_0 15 rfl) rfl (gin_c (mem_at i9wsX11_back_0 16 rfl) rfl (gin_c (mem_at i9wsX11_back_0 17 rfl) rfl (gin_c (mem_at i9wsX11_back_0 18 rfl) rfl (gin_c (mem_at i9wsX11_back_0 19 rfl) rfl (gin_c (mem_at i9wsX11_back_0 20 rfl) rfl gin_n))))))))))) (goodIn_sub i9wsX11_back_6 g9_5)) (goodIn_sub i9wsX11_back_7 g9_4)))
set_option maxRecDepth 20000 in
theorem gX11_back_X9_hasRoomToTurn : GoodIn wsX11_back (wsV RX11 224 RX9 yX9_hasRoomToTurn wsX9_hasRoomToTurn) := goodIn_app (gin_c (mem_at i9wsX11_back_0 5 rfl) rfl (gin_c (mem_at i9wsX11_back_0 6 rfl) rfl (gin_c (mem_at i9wsX11_back_0 7 rfl) rfl (gin_c (mem_at i9wsX11_back_0 8 rfl) rfl gin_n)))) ggX11_back_X9_hasRoomToTurn
theorem i9wsX11_back_1 : ∀ w ∈ wsX11_back_r2, w ∈ wsX11_back := fun _ h => (List.mem_cons_of_mem _ (List.mem_append_left _ (List.mem_append_left _ (List.mem_append_left _ (List.mem_append_left _ (List.mem_append_left _ (List.mem_append_left _ (List.mem_append_left _ (List.mem_append_left _ (List.mem_append_right _ (List.mem_append_left _ h)))))))))))
set_option maxRecDepth 20000 in
theorem ggX11_back_X3_dropMark : GoodIn wsX11_back wsX3_dropMark := (gin_c (mem_at i9wsX11_back_1 0 rfl) rfl (goodIn_app (gin_c (mem_at i9wsX11_back_0 17 rfl) rfl (gin_c (mem_at i9wsX11_back_0 19 rfl) rfl (gin_c (mem_at i9wsX11_back_0 18 rfl) rfl gin_n))) (goodIn_sub i9wsX11_back_7 g9_4)))
set_option maxRecDepth 20000 in
theorem gX11_back_X3_dropMark : GoodIn wsX11_back (wsV RX11 227 RX3 yX3_dropMark wsX3_dropMark) := goodIn_app (gin_c (mem_at i9wsX11_back_0 21 rfl) rfl (gin_c (mem_at i9wsX11_back_0 22 rfl) rfl (gin_c (mem_at i9wsX11_back_0 23 rfl) rfl (gin_c (mem_at i9wsX11_back_0 15 rfl) rfl gin_n)))) ggX11_back_X3_dropMark
theorem i9wsX11_back_2 : ∀ w ∈ wsX11_back_r3, w ∈ wsX11_back := fun _ h => (List.mem_cons_of_mem _ (List.mem_append_left _ (List.mem_append_left _ (List.mem_append_left _ (List.mem_append_left _ (List.mem_append_left _ (List.mem_append_left _ (List.mem_append_left _ (List.mem_append_left _ (List.mem_append_right _ (List.mem_append_right _ (List.mem_append_left _ h))))))))))))
theorem i9wsX11_back_3 : ∀ w ∈ wsX11_back_r4, w ∈ wsX11_back := fun _ h => (List.mem_cons_of_mem _ (List.mem_append_left _ (List.mem_append_left _ (List.mem_append_left _ (List.mem_append_left _ (List.mem_append_left _ (List.mem_append_left _ (List.mem_append_left _ (List.mem_append_left _ (List.mem_append_right _ (List.mem_append_right _ (List.mem_append_right _ (List.mem_append_left _ h)))))))))))))
theorem i9wsX11_back_4 : ∀ w ∈ wsX11_back_r5, w ∈ wsX11_back := fun _ h => (List.mem_cons_of_mem _ (List.mem_append_left _ (List.mem_append_left _ (List.mem_append_left _ (List.mem_append_left _ (List.mem_append_left _ (List.mem_append_left _ (List.mem_append_left _ (List.mem_append_left _ (List.mem_append_right _ (List.mem_append_right _ (List.mem_append_right _ (List.mem_append_right _ h)))))))))))))
theorem i9wsX11_back_8 : ∀ w ∈ wsX10, w ∈ wsX11_back := fun _ h => (List.mem_cons_of_mem _ (List.mem_append_left _ (List.mem_append_left _ (List.mem_append_left _ (List.mem_append_left _ (List.mem_append_right _ h))))))
theorem i9wsX11_back_9 : ∀ w ∈ wsX100, w ∈ wsX11_back := fun _ h => (List.mem_cons_of_mem _ (List.mem_append_left _ (List.mem_append_left _ (List.mem_append_left _ (List.mem_append_right _ h)))))
theorem i9wsX11_back_10 : ∀ w ∈ wsX00, w ∈ wsX11_back := fun _ h => (List.mem_cons_of_mem _ (List.mem_append_left _ (List.mem_append_left _ (List.mem_append_right _ h))))
theorem i9wsX11_back_11 : ∀ w ∈ wsX40, w ∈ wsX11_back := fun _ h => (List.mem_cons_of_mem _ (List.mem_append_left _ (List.mem_append_right _ h)))
set_option maxRecDepth 20000 in
theorem ggX11_back_X9_turn : GoodIn wsX11_back wsX9_turn := (gin_c (mem_at i9wsX11_back_1 4 rfl) rfl (goodIn_app (goodIn_app (goodIn_app (goodIn_app (goodIn_app (goodIn_app (goodIn_app (gin_c (mem_at i9wsX11_back_0 10 rfl) rfl (gin_c (mem_at i9wsX11_back_1 5 rfl) rfl (gin_c (mem_at i9wsX11_back_1 6 rfl) rfl (gin_c (mem_at i9wsX11_back_1 7 rfl) rfl (gin_c (mem_at i9wsX11_back_1 8 rfl) rfl (gin_c (mem_at i9wsX11_back_1 9 rfl) rfl (gin_c (mem_at i9wsX11_back_1 10 rfl) rfl (gin_c (mem_at i9wsX11_back_1 11 rfl) rfl (gin_c (mem_at i9wsX11_back_0 8 rfl) rfl (gin_c (mem_at i9wsX11_back_1 12 rfl) rfl (gin_c (mem_at i9wsX11_back_1 13 rfl) rfl (gin_c (mem_at i9wsX11_back_1 14 rfl) rfl (gin_c (mem_at i9wsX11_back_1 15 rfl) rfl (gin_c (mem_at i9wsX11_back_1 16 rfl) rfl (gin_c (mem_at i9wsX11_back_1 17 rfl) rfl (gin_c (mem_at i9wsX11_back_1 18 rfl) rfl (gin_c (mem_at i9wsX11_back_0 11 rfl) rfl (gin_c (mem_at i9wsX11_back_1 19 rfl) rfl (gin_c (mem_at i9wsX11_back_1 20 rfl) rfl (gin_c (mem_at i9wsX11_back_1 21 rfl) rfl (gin_c (mem_at i9wsX11_back_1 22 rfl) rfl (gin_c (mem_at i9wsX11_back_1 23 rfl) rfl (gin_c (mem_at i9wsX11_back_2 0 rfl) rfl (gin_c (mem_at i9wsX11_back_2 1 rfl) rfl gin_n)))))))))))))))))))))))) (goodIn_app (gin_c (mem_at i9wsX11_back_2 2 rfl) rfl (gin_c (mem_at i9wsX11_back_2 3 rfl) rfl (gin_c (mem_at i9wsX11_back_2 4 rfl) rfl (gin_c (mem_at i9wsX11_back_2 5 rfl) rfl (gin_c (mem_at i9wsX11_back_2 6 rfl) rfl (gin_c (mem_at i9wsX11_back_2 7 rfl) rfl (gin_c (mem_at i9wsX11_back_2 8 rfl) rfl (gin_c (mem_at i9wsX11_back_2 9 rfl) rfl (gin_c (mem_at i9wsX11_back_2 10 rfl) rfl (gin_c (mem_at i9wsX11_back_2 11 rfl) rfl (gin_c (mem_at i9wsX11_back_2 12 rfl) rfl (gin_c (mem_at i9wsX11_back_2 13 rfl) rfl (gin_c (mem_at i9wsX11_back_2 14 rfl) rfl (gin_c (mem_at i9wsX11_back_2 15 rfl) rfl (gin_c (mem_at i9wsX11_back_2 16 rfl) rfl (gin_c (mem_at i9wsX11_back_0 15 rfl) rfl (gin_c (mem_at i9wsX11_back_2 17 rfl) rfl (gin_c (mem_at i9wsX11_back_0 17 rfl) rfl (gin_c (mem_at i9wsX11_back_0 19 rfl) rfl (gin_c (mem_at i9wsX11_back_2 18 rfl) rfl (gin_c (mem_at i9wsX11_back_0 20 rfl) rfl (gin_c (mem_at i9wsX11_back_2 19 rfl) rfl (gin_c (mem_at i9wsX11_back_2 20 rfl) rfl (gin_c (mem_at i9wsX11_back_2 21 rfl) rfl gin_n)))))))))))))))))))))))) (goodIn_app (gin_c (mem_at i9wsX11_back_2 22 rfl) rfl (gin_c (mem_at i9wsX11_back_2 23 rfl) rfl (gin_c (mem_at i9wsX11_back_3 0 rfl) rfl (gin_c (mem_at i9wsX11_back_3 1 rfl) rfl (gin_c (mem_at i9wsX11_back_3 2 rfl) rfl (gin_c (mem_at i9wsX11_back_3 3 rfl) rfl (gin_c (mem_at i9wsX11_back_3 4 rfl) rfl (gin_c (mem_at i9wsX11_back_3 5 rfl) rfl (gin_c (mem_at i9wsX11_back_3 6 rfl) rfl (gin_c (mem_at i9wsX11_back_3 7 rfl) rfl (gin_c (mem_at i9wsX11_back_3 8 rfl) rfl (gin_c (mem_at i9wsX11_back_3 9 rfl) rfl (gin_c (mem_at i9wsX11_back_3 10 rfl) rfl (gin_c (mem_at i9wsX11_back_3 11 rfl) rfl (gin_c (mem_at i9wsX11_back_3 12 rfl) rfl (gin_c (mem_at i9wsX11_back_3 13 rfl) rfl (gin_c (mem_at i9wsX11_back_3 14 rfl) rfl (gin_c (mem_at i9wsX11_back_3 15 rfl) rfl (gin_c (mem_at i9wsX11_back_3 16 rfl) rfl (gin_c (mem_at i9wsX11_back_3 17 rfl) rfl (gin_c (mem_at i9wsX11_back_3 18 rfl) rfl (gin_c (mem_at i9wsX11_back_3 19 rfl) rfl (gin_c (mem_at i9wsX11_back_3 20 rfl) rfl (gin_c (mem_at i9wsX11_back_3 21 rfl) rfl gin_n)))))))))))))))))))))))) (gin_c (mem_at i9wsX11_back_3 22 rfl) rfl (gin_c (mem_at i9wsX11_back_3 23 rfl) rfl (gin_c (mem_at i9wsX11_back_4 0 rfl) rfl (gin_c (mem_at i9wsX11_back_4 1 rfl) rfl (gin_c (mem_at i9wsX11_back_4 2 rfl) rfl (gin_c (mem_at i9wsX11_back_4 3 rfl) rfl (gin_c (mem_at i9wsX11_back_4 4 rfl) rfl (gin_c (mem_at i9wsX11_back_4 5 rfl) rfl (gin_c (mem_at i9wsX11_back_4 6 rfl) rfl (gin_c (mem_at i9wsX11_back_4 7 rfl) rfl (gin_c (mem_at i9wsX11_back_4 8 rfl) rfl (gin_c (mem_at i9wsX11_back_4 9 rfl) rfl (gin_c (mem_at i9wsX11_back_4 10 rfl) rfl (gin_c (mem_at i9wsX11_back_4 11 rfl) rfl (gin_c (mem_at i9wsX11_back_4 12 rfl) rfl gin_n)))))))))))))))))) (goodIn_sub i9wsX11_back_6 g9_5)) (goodIn_sub i9wsX11_back_7 g9_4)) (goodIn_sub i9wsX11_back_8 g9_0)) (goodIn_sub i9wsX11_back_9 g9_3)) (goodIn_sub i9wsX11_back_10 g9_1)) (goodIn_sub i9wsX11_back_11 g9_2)))
set_option maxRecDepth 20000 in
theorem gX11_back_X9_turn : GoodIn wsX11_back (wsV RX11 230 RX9 yX9_turn wsX9_turn) := goodIn_app (gin_c (mem_at i9wsX11_back_1 1 rfl) rfl (gin_c (mem_at i9wsX11_back_1 2 rfl) rfl (gin_c (mem_at i9wsX11_back_1 3 rfl) rfl (gin_c (mem_at i9wsX11_back_0 8 rfl) rfl gin_n)))) ggX11_back_X9_turn
set_option maxRecDepth 20000 in
theorem ggX11_back_X3_forgetWithoutMarks : GoodIn wsX11_back wsX3_forgetWithoutMarks := (gin_c (mem_at i9wsX11_back_4 16 rfl) rfl (goodIn_app (gin_c (mem_at i9wsX11_back_0 17 rfl) rfl (gin_c (mem_at i9wsX11_back_0 19 rfl) rfl gin_n)) (goodIn_sub i9wsX11_back_7 g9_4)))
set_option maxRecDepth 20000 in
theorem gX11_back_X3_forgetWithoutMarks : GoodIn wsX11_back (wsV RX11 233 RX3 yX3_forgetWithoutMarks wsX3_forgetWithoutMarks) := goodIn_app (gin_c (mem_at i9wsX11_back_4 13 rfl) rfl (gin_c (mem_at i9wsX11_back_4 14 rfl) rfl (gin_c (mem_at i9wsX11_back_4 15 rfl) rfl (gin_c (mem_at i9wsX11_back_0 15 rfl) rfl gin_n)))) ggX11_back_X3_forgetWithoutMarks
set_option maxHeartbeats 4000000 in
set_option maxRecDepth 100000 in
theorem T_X11_back (l : Launch) (hl : l.stackTraces = false) (D : va_G) (cA : Nat → ClassId) {l0 : Option Nat} {l1 : Int32} {x : HS} {Q : Int32 → HS → Prop} {X : String → HS → Prop} (h : w_X11_back l0 l1 x Q X) : YI l yX11_back wsX11_back 6 128 D cA [.q l0, .i l1] x Q X := by
  refine YI.of (cc := cX11_back) (maxL := 4) (ret := (some .int)) hl (by decide) rfl rfl (fun g B fr => ?_)
  have o := B.o
  have hb := B.hb
  have hts := B.hts
  have hown : g.s.vm.findClass RX11 = some g.m.cls := B.hown
  have in3 : ∀ w ∈ u_ws RX3 TX3 5, w ∈ wsX11_back := fun w h => (List.mem_cons_of_mem _ (List.mem_append_left _ (List.mem_append_left _ (List.mem_append_left _ (List.mem_append_left _ (List.mem_append_left _ (List.mem_append_right _ h)))))))
  have in9 : ∀ w ∈ u_ws RX9 TX9 8, w ∈ wsX11_back := fun w h => (List.mem_cons_of_mem _ (List.mem_append_left _ (List.mem_append_left _ (List.mem_append_left _ (List.mem_append_left _ (List.mem_append_left _ (List.mem_append_left _ (List.mem_append_right _ h))))))))
  have in11 : ∀ w ∈ u_ws RX11 TX11 12, w ∈ wsX11_back := fun w h => (List.mem_cons_of_mem _ (List.mem_append_left _ (List.mem_append_left _ (List.mem_append_left _ (List.mem_append_left _ (List.mem_append_left _ (List.mem_append_left _ (List.mem_append_left _ (List.mem_append_right _ h)))))))))
  unfold w_X11_back at h
  show KW g 4 0 [(0, .q l0), (1, .i l1)] [] x
  refine k_aload_n o hb dX11_back_0 rfl 0 rfl ?_
  refine k_getF (C := RX11) (T := TX11) (N := 12) o hb hts in11 hown rfl (by decide) 2 (by decide) rfl (hts (.fieldLink RX11 20 "FactKeeper" "store" "LFactKeeper$Store;") (by decide +kernel)) (fun _ h9 => h9) dX11_back_1 h (fun v1 h => ?_)
  refine k_getF (C := RX9) (T := TX9) (N := 8) o hb hts in9 hown rfl (by decide) 2 (by decide) rfl (hts (.fieldLink RX11 207 "FactKeeper$Store" "history" "LFactKeeper$History;") (by decide +kernel)) (fun _ h9 => h9) dX11_back_4 h (fun v2 h => ?_)
  refine k_getI (C := RX3) (T := TX3) (N := 5) o hb hts in3 hown rfl (by decide) 4 (by decide) rfl (hts (.fieldLink RX11 219 "FactKeeper$History" "markCount" "I") (by decide +kernel)) (fun _ h9 => h9) dX11_back_7 h (fun v3 h => ?_)
  refine k_if_ne (tgt := 23) o hb dX11_back_10 (by decide) h (fun h => ?_) (fun h => ?_)
  · skip
    refine k_throw (E := eIS) o (fun H locs cells slots mc ms ls XC hls hS hc1 hs1 hc2 hs2 hx9 => ?_) h
    obtain ⟨sa, hsa⟩ := o.hZ.2.2.2.2.2.2.1.2.2.2.2.2.2.2.2.2.2.2.2.1
    exact vx_throwS (cls := eIS) (names := eSup) (A := g.A) o.hx hb o.hl hown (by decide +kernel) (by decide +kernel) (hts (.classLink RX11 79 "java/lang/IllegalStateException") (by decide +kernel)) (hts (.initialized "java/lang/IllegalStateException") (by decide +kernel)) hsa (tx_at hts (fun w h => (List.mem_cons_of_mem _ (List.mem_append_right _ h))) (by decide +kernel) o.hZ.2.2.2.1.2.2.1 o.hZ.2.2.2.2.2.2.2) (by decide +kernel) o.hZ.1 o.hZ.2.1 hS (hls.trans B.hml.symm) dX11_back_13 dX11_back_16 dX11_back_17 dX11_back_19 dX11_back_22 (fun x h => (o.htb x h).elim) (ylt B.hR1 rfl) (by rw [lq_cats]; exact yle B.hR2 rfl) hc1 hs1 o.hlk (fun t ha h1 h2 => hx9 t ha h1 h2) hS.2.2 hc2 hs2
  · skip
    refine k_iload_n o hb dX11_back_23 rfl 1 rfl ?_
    refine wJoin_elim (M := fun K => ∀  (x5 : HS), K  x5 → KW g 4 47 [(0, .q l0), (1, .i l1)] [] x5) h ?_ (fun j4 hj4 h => ?_)
    · skip
      intro  x5 h
      refine k_aload_n o hb dX11_back_47 rfl 0 rfl ?_
      refine k_getF (C := RX11) (T := TX11) (N := 12) o hb hts in11 hown rfl (by decide) 2 (by decide) rfl (hts (.fieldLink RX11 20 "FactKeeper" "store" "LFactKeeper$Store;") (by decide +kernel)) (fun _ h9 => h9) dX11_back_48 h (fun v6 h => ?_)
      refine k_getF (C := RX9) (T := TX9) (N := 8) o hb hts in9 hown rfl (by decide) 2 (by decide) rfl (hts (.fieldLink RX11 207 "FactKeeper$Store" "history" "LFactKeeper$History;") (by decide +kernel)) (fun _ h9 => h9) dX11_back_51 h (fun v7 h => ?_)
      refine k_run_i o (fun _ _ q => q) (k_runV (ci := 3) (rc := (RX3, TX3, 5)) o hb B.hml hown hts rfl (by decide) (T_X3_dropMark g.l o.hl g.D g.cA h.2) (cwV 0 hts gX11_back_X3_dropMark rfl rfl rfl (by decide +kernel) ⟨yle B.hR1 rfl, yle B.hR2 rfl⟩) h.1 rfl rfl (Nat.le_of_ble_eq_true rfl) dX11_back_54) (fun v9 x8 h => ?_)
      refine k_istore_n o hb dX11_back_57 rfl rfl ?_
      refine k_iload_n o hb dX11_back_58 rfl 2 rfl ?_
      refine wJoin_elim (M := fun K => ∀ (v12 : Int32) (x11 : HS), K v12 x11 → KW g 4 74 [(0, .q l0)] [.i v12] x11) h ?_ (fun j10 hj10 h => ?_)
      · skip
        intro v12 x11 h
        refine k_istore_n o hb dX11_back_74 rfl rfl ?_
        refine k_aload_n o hb dX11_back_75 rfl 1 rfl ?_
        refine k_getF (C := RX11) (T := TX11) (N := 12) o hb hts in11 hown rfl (by decide) 2 (by decide) rfl (hts (.fieldLink RX11 20 "FactKeeper" "store" "LFactKeeper$Store;") (by decide +kernel)) (fun _ h9 => h9) dX11_back_76 h (fun v13 h => ?_)
        refine k_getF (C := RX9) (T := TX9) (N := 8) o hb hts in9 hown rfl (by decide) 2 (by decide) rfl (hts (.fieldLink RX11 207 "FactKeeper$Store" "history" "LFactKeeper$History;") (by decide +kernel)) (fun _ h9 => h9) dX11_back_79 h (fun v14 h => ?_)
        refine k_run_v o (fun _ _ q => q) (k_runV (ci := 3) (rc := (RX3, TX3, 5)) o hb B.hml hown hts rfl (by decide) (T_X3_forgetWithoutMarks g.l o.hl g.D g.cA h.2) (cwV 0 hts gX11_back_X3_forgetWithoutMarks rfl rfl rfl (by decide +kernel) ⟨yle B.hR1 rfl, yle B.hR2 rfl⟩) h.1 rfl rfl (Nat.le_of_ble_eq_true rfl) dX11_back_82) (fun x15 h => ?_)
        refine k_iload_n o hb dX11_back_85 rfl 0 rfl ?_
        exact k_iret o hb B.hr fr dX11_back_86 h
      · skip
        refine k_if_eq (tgt := 73) o hb dX11_back_59 (by decide) h (fun h => ?_) (fun h => ?_)
        · skip
          refine k_iconst (v := 0) o hb dX11_back_73 (by decide) ?_
          exact KW.sub [1] rfl (hj10 0 x8 h)
        · skip
          refine k_aload_n o hb dX11_back_62 rfl 1 rfl ?_
          refine k_getF (C := RX11) (T := TX11) (N := 12) o hb hts in11 hown rfl (by decide) 2 (by decide) rfl (hts (.fieldLink RX11 20 "FactKeeper" "store" "LFactKeeper$Store;") (by decide +kernel)) (fun _ h9 => h9) dX11_back_63 h (fun v17 h => ?_)
          refine k_iload_n o hb dX11_back_66 rfl 0 rfl ?_
          refine k_run_i o (fun _ _ q => q) (k_runV (ci := 9) (rc := (RX9, TX9, 8)) o hb B.hml hown hts rfl (by decide) (T_X9_turn g.l o.hl g.D g.cA h.2) (cwV 1 hts gX11_back_X9_turn rfl rfl rfl (by decide +kernel) ⟨yle B.hR1 rfl, yle B.hR2 rfl⟩) h.1 rfl rfl (Nat.le_of_ble_eq_true rfl) dX11_back_67) (fun v19 x18 h => ?_)
          refine k_goto (tgt := 74) o hb dX11_back_70 (by decide) ?_
          exact KW.sub [1] rfl (hj10 v19 x18 h)
    · skip
      refine k_if_eq (tgt := 47) o hb dX11_back_24 (by decide) h (fun h => ?_) (fun h => ?_)
      · skip
        exact KW.sub [0, 1] rfl (hj4 x h)
      · skip
        refine k_aload_n o hb dX11_back_27 rfl 0 rfl ?_
        refine k_getF (C := RX11) (T := TX11) (N := 12) o hb hts in11 hown rfl (by decide) 2 (by decide) rfl (hts (.fieldLink RX11 20 "FactKeeper" "store" "LFactKeeper$Store;") (by decide +kernel)) (fun _ h9 => h9) dX11_back_28 h (fun v20 h => ?_)
        refine k_run_i o (fun _ _ q => q) (k_runV (ci := 9) (rc := (RX9, TX9, 8)) o hb B.hml hown hts rfl (by decide) (T_X9_hasRoomToTurn g.l o.hl g.D g.cA h.2) (cwV 0 hts gX11_back_X9_hasRoomToTurn rfl rfl rfl (by decide +kernel) ⟨yle B.hR1 rfl, yle B.hR2 rfl⟩) h.1 rfl rfl (Nat.le_of_ble_eq_true rfl) dX11_back_31) (fun v22 x21 h => ?_)
        refine k_if_ne (tgt := 47) o hb dX11_back_34 (by decide) h (fun h => ?_) (fun h => ?_)
        · skip
          refine k_throw (E := eIS) o (fun H locs cells slots mc ms ls XC hls hS hc1 hs1 hc2 hs2 hx9 => ?_) h
          obtain ⟨sa, hsa⟩ := o.hZ.2.2.2.2.2.2.1.2.2.2.2.2.2.2.1
          exact vx_throwS (cls := eIS) (names := eSup) (A := g.A) o.hx hb o.hl hown (by decide +kernel) (by decide +kernel) (hts (.classLink RX11 79 "java/lang/IllegalStateException") (by decide +kernel)) (hts (.initialized "java/lang/IllegalStateException") (by decide +kernel)) hsa (tx_at hts (fun w h => (List.mem_cons_of_mem _ (List.mem_append_right _ h))) (by decide +kernel) o.hZ.2.2.2.1.2.2.1 o.hZ.2.2.2.2.2.2.2) (by decide +kernel) o.hZ.1 o.hZ.2.1 hS (hls.trans B.hml.symm) dX11_back_37 dX11_back_40 dX11_back_41 dX11_back_43 dX11_back_46 (fun x h => (o.htb x h).elim) (ylt B.hR1 rfl) (by rw [lq_cats]; exact yle B.hR2 rfl) hc1 hs1 o.hlk (fun t ha h1 h2 => hx9 t ha h1 h2) hS.2.2 hc2 hs2
        · skip
          exact KW.sub [0, 1] rfl (hj4 x21 h)
theorem dX11_openCursors_0 : decode cX11_openCursors 0 = .ok (.iconst 0, 1) := by decide +kernel
theorem dX11_openCursors_1 : decode cX11_openCursors 1 = .ok (.istore_n 1, 1) := by decide +kernel
theorem dX11_openCursors_2 : decode cX11_openCursors 2 = .ok (.iconst 0, 1) := by decide +kernel
theorem dX11_openCursors_3 : decode cX11_openCursors 3 = .ok (.istore_n 2, 1) := by decide +kernel
theorem dX11_openCursors_4 : decode cX11_openCursors 4 = .ok (.iload_n 2, 1) := by decide +kernel
theorem dX11_openCursors_5 : decode cX11_openCursors 5 = .ok (.bipush 10, 2) := by decide +kernel
theorem dX11_openCursors_7 : decode cX11_openCursors 7 = .ok (.if_icmp .ge 21, 3) := by decide +kernel
theorem dX11_openCursors_10 : decode cX11_openCursors 10 = .ok (.aload_n 0, 1) := by decide +kernel
theorem dX11_openCursors_11 : decode cX11_openCursors 11 = .ok (.getfield 30, 3) := by decide +kernel
theorem dX11_openCursors_14 : decode cX11_openCursors 14 = .ok (.iload_n 2, 1) := by decide +kernel
theorem dX11_openCursors_15 : decode cX11_openCursors 15 = .ok (.baload, 1) := by decide +kernel
theorem dX11_openCursors_16 : decode cX11_openCursors 16 = .ok (.ifCond .eq 6, 3) := by decide +kernel
theorem dX11_openCursors_19 : decode cX11_openCursors 19 = .ok (.iinc 1 1, 3) := by decide +kernel
theorem dX11_openCursors_22 : decode cX11_openCursors 22 = .ok (.iinc 2 1, 3) := by decide +kernel
theorem dX11_openCursors_25 : decode cX11_openCursors 25 = .ok (.goto (-21), 3) := by decide +kernel
theorem dX11_openCursors_28 : decode cX11_openCursors 28 = .ok (.iload_n 1, 1) := by decide +kernel
theorem dX11_openCursors_29 : decode cX11_openCursors 29 = .ok (.ireturn, 1) := by decide +kernel
set_option maxHeartbeats 4000000 in
set_option maxRecDepth 100000 in
theorem T_X11_openCursors (l : Launch) (hl : l.stackTraces = false) (D : va_G) (cA : Nat → ClassId) {l0 : Option Nat} {x : HS} {Q : Int32 → HS → Prop} {X : String → HS → Prop} (h : w_X11_openCursors l0 x Q X) : YI l yX11_openCursors wsX11_openCursors 0 0 D cA [.q l0] x Q X := by
  refine YI.of (cc := cX11_openCursors) (maxL := 3) (ret := (some .int)) hl (by decide) rfl rfl (fun g B fr => ?_)
  have o := B.o
  have hb := B.hb
  have hts := B.hts
  have hown : g.s.vm.findClass RX11 = some g.m.cls := B.hown
  have in11 : ∀ w ∈ u_ws RX11 TX11 12, w ∈ wsX11_openCursors := fun w h => (List.mem_cons_of_mem _ (List.mem_append_right _ h))
  unfold w_X11_openCursors at h
  show KW g 3 0 [(0, .q l0)] [] x
  refine k_iconst (v := 0) o hb dX11_openCursors_0 (by decide) ?_
  refine k_istore_n o hb dX11_openCursors_1 rfl rfl ?_
  refine k_iconst (v := 0) o hb dX11_openCursors_2 (by decide) ?_
  refine k_istore_n o hb dX11_openCursors_3 rfl rfl ?_
  refine KW.sub [2, 1, 0] rfl ?_
  refine wLoop_elim (M := fun (v4 : Int32 × Int32) (x3 : HS) => KW g 3 4 [(0, .q l0), (1, .i v4.1), (2, .i v4.2)] [] x3) h ?_
  intro v4 x3 again1 ih2 h
  refine k_iload_n o hb dX11_openCursors_4 rfl 2 rfl ?_
  refine k_bipush (v := 10) o hb dX11_openCursors_5 (by decide) ?_
  refine k_icmp_ge (tgt := 28) o hb dX11_openCursors_7 (by decide) h (fun h => ?_) (fun h => ?_)
  · skip
    refine k_iload_n o hb dX11_openCursors_28 rfl 1 rfl ?_
    exact k_iret o hb B.hr fr dX11_openCursors_29 h
  · skip
    refine k_aload_n o hb dX11_openCursors_10 rfl 0 rfl ?_
    refine k_getF (C := RX11) (T := TX11) (N := 12) o hb hts in11 hown rfl (by decide) 4 (by decide) rfl (hts (.fieldLink RX11 30 "FactKeeper" "isOpen" "[Z") (by decide +kernel)) (fun _ h9 => h9) dX11_openCursors_11 h (fun v5 h => ?_)
    refine k_iload_n o hb dX11_openCursors_14 rfl 2 rfl ?_
    refine k_zald o hb dX11_openCursors_15 h (fun v6 h => ?_)
    refine wJoin_elim (M := fun K => ∀ (v9 : Int32) (x8 : HS), K v9 x8 → KW g 3 22 [(0, .q l0), (1, .i v9), (2, .i v4.2)] [] x8) h ?_ (fun j7 hj7 h => ?_)
    · skip
      intro v9 x8 h
      refine k_iinc (w := 1) o hb dX11_openCursors_22 2 rfl (by decide) rfl ?_
      refine k_goto (tgt := 4) o hb dX11_openCursors_25 (by decide) ?_
      exact KW.sub [1, 2, 0] rfl (ih2 (v9, (v4.2 + 1)) x8 h)
    · skip
      refine k_if_eq (tgt := 22) o hb dX11_openCursors_16 (by decide) h (fun h => ?_) (fun h => ?_)
      · skip
        exact KW.sub [0, 1, 2] rfl (hj7 v4.1 x3 h)
      · skip
        refine k_iinc (w := 1) o hb dX11_openCursors_19 1 rfl (by decide) rfl ?_
        exact KW.sub [1, 0, 2] rfl (hj7 (v4.1 + 1) x3 h)
theorem dX11_purge_0 : decode cX11_purge 0 = .ok (.aload_n 0, 1) := by decide +kernel
theorem dX11_purge_1 : decode cX11_purge 1 = .ok (.iload_n 1, 1) := by decide +kernel
theorem dX11_purge_2 : decode cX11_purge 2 = .ok (.invokevirtual 236, 3) := by decide +kernel
theorem dX11_purge_5 : decode cX11_purge 5 = .ok (.aload_n 0, 1) := by decide +kernel
theorem dX11_purge_6 : decode cX11_purge 6 = .ok (.invokevirtual 239, 3) := by decide +kernel
theorem dX11_purge_9 : decode cX11_purge 9 = .ok (.ifCond .gt 16, 3) := by decide +kernel
theorem dX11_purge_12 : decode cX11_purge 12 = .ok (.aload_n 0, 1) := by decide +kernel
theorem dX11_purge_13 : decode cX11_purge 13 = .ok (.getfield 20, 3) := by decide +kernel
theorem dX11_purge_16 : decode cX11_purge 16 = .ok (.getfield 207, 3) := by decide +kernel
theorem dX11_purge_19 : decode cX11_purge 19 = .ok (.getfield 219, 3) := by decide +kernel
theorem dX11_purge_22 : decode cX11_purge 22 = .ok (.ifCond .le 13, 3) := by decide +kernel
theorem dX11_purge_25 : decode cX11_purge 25 = .ok (.new 79, 3) := by decide +kernel
theorem dX11_purge_28 : decode cX11_purge 28 = .ok (.dup, 1) := by decide +kernel
theorem dX11_purge_29 : decode cX11_purge 29 = .ok (.ldc 242, 2) := by decide +kernel
theorem dX11_purge_31 : decode cX11_purge 31 = .ok (.invokespecial 83, 3) := by decide +kernel
theorem dX11_purge_34 : decode cX11_purge 34 = .ok (.athrow, 1) := by decide +kernel
theorem dX11_purge_35 : decode cX11_purge 35 = .ok (.aload_n 0, 1) := by decide +kernel
theorem dX11_purge_36 : decode cX11_purge 36 = .ok (.getfield 20, 3) := by decide +kernel
theorem dX11_purge_39 : decode cX11_purge 39 = .ok (.aload_n 0, 1) := by decide +kernel
theorem dX11_purge_40 : decode cX11_purge 40 = .ok (.getfield 20, 3) := by decide +kernel
theorem dX11_purge_43 : decode cX11_purge 43 = .ok (.iload_n 1, 1) := by decide +kernel
theorem dX11_purge_44 : decode cX11_purge 44 = .ok (.invokevirtual 244, 3) := by decide +kernel
theorem dX11_purge_47 : decode cX11_purge 47 = .ok (.invokevirtual 247, 3) := by decide +kernel
theorem dX11_purge_50 : decode cX11_purge 50 = .ok (.ireturn, 1) := by decide +kernel
theorem i9wsX11_purge_0 : ∀ w ∈ wsX11_purge_r1, w ∈ wsX11_purge := fun _ h => (List.mem_cons_of_mem _ (List.mem_append_left _ (List.mem_append_left _ (List.mem_append_left _ (List.mem_append_left _ (List.mem_append_left _ (List.mem_append_left _ (List.mem_append_left _ (List.mem_append_left _ (List.mem_append_left _ (List.mem_append_left _ h)))))))))))
theorem i9wsX11_purge_5 : ∀ w ∈ wsX110, w ∈ wsX11_purge := fun _ h => (List.mem_cons_of_mem _ (List.mem_append_left _ (List.mem_append_left _ (List.mem_append_left _ (List.mem_append_left _ (List.mem_append_left _ (List.mem_append_left _ (List.mem_append_left _ (List.mem_append_left _ (List.mem_append_right _ h))))))))))
theorem i9wsX11_purge_6 : ∀ w ∈ wsX90, w ∈ wsX11_purge := fun _ h => (List.mem_cons_of_mem _ (List.mem_append_left _ (List.mem_append_left _ (List.mem_append_left _ (List.mem_append_left _ (List.mem_append_left _ (List.mem_append_left _ (List.mem_append_left _ (List.mem_append_right _ h)))))))))
theorem i9wsX11_purge_13 : ∀ w ∈ ((vx_atS RX11 340 "java/lang/IllegalArgumentException" ["java/lang/RuntimeException", "java/lang/Exception"]).filter goodWord), w ∈ wsX11_purge := fun _ h => (List.mem_cons_of_mem _ (List.mem_append_right _ h))
set_option maxRecDepth 20000 in
theorem ggX11_purge_X11_requireTime : GoodIn wsX11_purge wsX11_requireTime := (gin_c (mem_at i9wsX11_purge_0 9 rfl) rfl (goodIn_app (goodIn_app (goodIn_app (gin_c (mem_at i9wsX11_purge_0 2 rfl) rfl (gin_c (mem_at i9wsX11_purge_0 10 rfl) rfl (gin_c (mem_at i9wsX11_purge_0 11 rfl) rfl (gin_c (mem_at i9wsX11_purge_0 12 rfl) rfl (gin_c (mem_at i9wsX11_purge_0 13 rfl) rfl (gin_c (mem_at i9wsX11_purge_0 8 rfl) rfl (gin_c (mem_at i9wsX11_purge_0 14 rfl) rfl (gin_c (mem_at i9wsX11_purge_0 15 rfl) rfl (gin_c (mem_at i9wsX11_purge_0 16 rfl) rfl gin_n))))))))) (goodIn_sub i9wsX11_purge_5 g9_13)) (goodIn_sub i9wsX11_purge_6 g9_5)) (goodIn_sub i9wsX11_purge_13 g9_14)))
set_option maxRecDepth 20000 in
theorem gX11_purge_X11_requireTime : GoodIn wsX11_purge (wsV RX11 236 RX11 yX11_requireTime wsX11_requireTime) := goodIn_app (gin_c (mem_at i9wsX11_purge_0 5 rfl) rfl (gin_c (mem_at i9wsX11_purge_0 6 rfl) rfl (gin_c (mem_at i9wsX11_purge_0 7 rfl) rfl (gin_c (mem_at i9wsX11_purge_0 8 rfl) rfl gin_n)))) ggX11_purge_X11_requireTime
set_option maxRecDepth 20000 in
theorem ggX11_purge_X11_openCursors : GoodIn wsX11_purge wsX11_openCursors := (gin_c (mem_at i9wsX11_purge_0 20 rfl) rfl (goodIn_app (gin_c (mem_at i9wsX11_purge_0 21 rfl) rfl gin_n) (goodIn_sub i9wsX11_purge_5 g9_13)))
set_option maxRecDepth 20000 in
theorem gX11_purge_X11_openCursors : GoodIn wsX11_purge (wsV RX11 239 RX11 yX11_openCursors wsX11_openCursors) := goodIn_app (gin_c (mem_at i9wsX11_purge_0 17 rfl) rfl (gin_c (mem_at i9wsX11_purge_0 18 rfl) rfl (gin_c (mem_at i9wsX11_purge_0 19 rfl) rfl (gin_c (mem_at i9wsX11_purge_0 8 rfl) rfl gin_n)))) ggX11_purge_X11_openCursors
theorem i9wsX11_purge_1 : ∀ w ∈ wsX11_purge_r2, w ∈ wsX11_purge := fun _ h => (List.mem_cons_of_mem _ (List.mem_append_left _ (List.mem_append_left _ (List.mem_append_left _ (List.mem_append_left _ (List.mem_append_left _ (List.mem_append_left _ (List.mem_append_left _ (List.mem_append_left _ (List.mem_append_left _ (List.mem_append_right _ (List.mem_append_left _ h))))))))))))
set_option maxRecDepth 20000 in
theorem ggX11_purge_X9_timeOf : GoodIn wsX11_purge wsX9_timeOf := (gin_c (mem_at i9wsX11_purge_1 2 rfl) rfl (goodIn_app (gin_c (mem_at i9wsX11_purge_1 3 rfl) rfl gin_n) (goodIn_sub i9wsX11_purge_6 g9_5)))
set_option maxRecDepth 20000 in
theorem gX11_purge_X9_timeOf : GoodIn wsX11_purge (wsV RX11 244 RX9 yX9_timeOf wsX9_timeOf) := goodIn_app (gin_c (mem_at i9wsX11_purge_0 22 rfl) rfl (gin_c (mem_at i9wsX11_purge_0 23 rfl) rfl (gin_c (mem_at i9wsX11_purge_1 0 rfl) rfl (gin_c (mem_at i9wsX11_purge_1 1 rfl) rfl gin_n)))) ggX11_purge_X9_timeOf
theorem i9wsX11_purge_2 : ∀ w ∈ wsX11_purge_r3, w ∈ wsX11_purge := fun _ h => (List.mem_cons_of_mem _ (List.mem_append_left _ (List.mem_append_left _ (List.mem_append_left _ (List.mem_append_left _ (List.mem_append_left _ (List.mem_append_left _ (List.mem_append_left _ (List.mem_append_left _ (List.mem_append_left _ (List.mem_append_right _ (List.mem_append_right _ (List.mem_append_left _ h)))))))))))))
theorem i9wsX11_purge_3 : ∀ w ∈ wsX11_purge_r4, w ∈ wsX11_purge := fun _ h => (List.mem_cons_of_mem _ (List.mem_append_left _ (List.mem_append_left _ (List.mem_append_left _ (List.mem_append_left _ (List.mem_append_left _ (List.mem_append_left _ (List.mem_append_left _ (List.mem_append_left _ (List.mem_append_left _ (List.mem_append_right _ (List.mem_append_right _ (List.mem_append_right _ (List.mem_append_left _ h))))))))))))))
theorem i9wsX11_purge_4 : ∀ w ∈ wsX11_purge_r5, w ∈ wsX11_purge := fun _ h => (List.mem_cons_of_mem _ (List.mem_append_left _ (List.mem_append_left _ (List.mem_append_left _ (List.mem_append_left _ (List.mem_append_left _ (List.mem_append_left _ (List.mem_append_left _ (List.mem_append_left _ (List.mem_append_left _ (List.mem_append_right _ (List.mem_append_right _ (List.mem_append_right _ (List.mem_append_right _ h))))))))))))))
theorem i9wsX11_purge_8 : ∀ w ∈ wsX10, w ∈ wsX11_purge := fun _ h => (List.mem_cons_of_mem _ (List.mem_append_left _ (List.mem_append_left _ (List.mem_append_left _ (List.mem_append_left _ (List.mem_append_left _ (List.mem_append_right _ h)))))))
theorem i9wsX11_purge_9 : ∀ w ∈ wsX100, w ∈ wsX11_purge := fun _ h => (List.mem_cons_of_mem _ (List.mem_append_left _ (List.mem_append_left _ (List.mem_append_left _ (List.mem_append_left _ (List.mem_append_right _ h))))))
theorem i9wsX11_purge_10 : ∀ w ∈ wsX00, w ∈ wsX11_purge := fun _ h => (List.mem_cons_of_mem _ (List.mem_append_left _ (List.mem_append_left _ (List.mem_append_left _ (List.mem_append_right _ h)))))
theorem i9wsX11_purge_11 : ∀ w ∈ wsX40, w ∈ wsX11_purge := fun _ h => (List.mem_cons_of_mem _ (List.mem_append_left _ (List.mem_append_left _ (List.mem_append_right _ h))))
set_option maxRecDepth 20000 in
theorem ggX11_purge_X9_forgetDead : GoodIn wsX11_purge wsX9_forgetDead := (gin_c (mem_at i9wsX11_purge_1 7 rfl) rfl (goodIn_app (goodIn_app (goodIn_app (goodIn_app (goodIn_app (goodIn_app (gin_c (mem_at i9wsX11_purge_1 8 rfl) rfl (gin_c (mem_at i9wsX11_purge_1 9 rfl) rfl (gin_c (mem_at i9wsX11_purge_1 10 rfl) rfl (gin_c (mem_at i9wsX11_purge_1 11 rfl) rfl (gin_c (mem_at i9wsX11_purge_1 12 rfl) rfl (gin_c (mem_at i9wsX11_purge_1 13 rfl) rfl (gin_c (mem_at i9wsX11_purge_1 14 rfl) rfl (gin_c (mem_at i9wsX11_purge_1 15 rfl) rfl (gin_c (mem_at i9wsX11_purge_1 16 rfl) rfl (gin_c (mem_at i9wsX11_purge_1 17 rfl) rfl (gin_c (mem_at i9wsX11_purge_1 18 rfl) rfl (gin_c (mem_at i9wsX11_purge_1 19 rfl) rfl (gin_c (mem_at i9wsX11_purge_1 20 rfl) rfl (gin_c (mem_at i9wsX11_purge_1 21 rfl) rfl (gin_c (mem_at i9wsX11_purge_1 22 rfl) rfl (gin_c (mem_at i9wsX11_purge_1 23 rfl) rfl (gin_c (mem_at i9wsX11_purge_2 0 rfl) rfl (gin_c (mem_at i9wsX11_purge_2 1 rfl) rfl (gin_c (mem_at i9wsX11_purge_2 2 rfl) rfl (gin_c (mem_at i9wsX11_purge_2 3 rfl) rfl (gin_c (mem_at i9wsX11_purge_2 4 rfl) rfl (gin_c (mem_at i9wsX11_purge_2 5 rfl) rfl (gin_c (mem_at i9wsX11_purge_2 6 rfl) rfl (gin_c (mem_at i9wsX11_purge_2 7 rfl) rfl gin_n)))))))))))))))))))))))) (goodIn_app (gin_c (mem_at i9wsX11_purge_2 8 rfl) rfl (gin_c (mem_at i9wsX11_purge_2 9 rfl) rfl (gin_c (mem_at i9wsX11_purge_2 10 rfl) rfl (gin_c (mem_at i9wsX11_purge_2 11 rfl) rfl (gin_c (mem_at i9wsX11_purge_2 12 rfl) rfl (gin_c (mem_at i9wsX11_purge_2 13 rfl) rfl (gin_c (mem_at i9wsX11_purge_2 14 rfl) rfl (gin_c (mem_at i9wsX11_purge_2 15 rfl) rfl (gin_c (mem_at i9wsX11_purge_2 16 rfl) rfl (gin_c (mem_at i9wsX11_purge_2 17 rfl) rfl (gin_c (mem_at i9wsX11_purge_2 18 rfl) rfl (gin_c (mem_at i9wsX11_purge_2 19 rfl) rfl (gin_c (mem_at i9wsX11_purge_2 20 rfl) rfl (gin_c (mem_at i9wsX11_purge_2 21 rfl) rfl (gin_c (mem_at i9wsX11_purge_2 22 rfl) rfl (gin_c (mem_at i9wsX11_purge_2 23 rfl) rfl (gin_c (mem_at i9wsX11_purge_3 0 rfl) rfl (gin_c (mem_at i9wsX11_purge_3 1 rfl) rfl (gin_c (mem_at i9wsX11_purge_3 2 rfl) rfl (gin_c (mem_at i9wsX11_purge_3 3 rfl) rfl (gin_c (mem_at i9wsX11_purge_3 4 rfl) rfl (gin_c (mem_at i9wsX11_purge_3 5 rfl) rfl (gin_c (mem_at i9wsX11_purge_3 6 rfl) rfl (gin_c (mem_at i9wsX11_purge_3 7 rfl) rfl gin_n)))))))))))))))))))))))) (goodIn_app (gin_c (mem_at i9wsX11_purge_3 8 rfl) rfl (gin_c (mem_at i9wsX11_purge_3 9 rfl) rfl (gin_c (mem_at i9wsX11_purge_3 10 rfl) rfl (gin_c (mem_at i9wsX11_purge_3 11 rfl) rfl (gin_c (mem_at i9wsX11_purge_3 12 rfl) rfl (gin_c (mem_at i9wsX11_purge_3 13 rfl) rfl (gin_c (mem_at i9wsX11_purge_3 14 rfl) rfl (gin_c (mem_at i9wsX11_purge_3 15 rfl) rfl (gin_c (mem_at i9wsX11_purge_3 16 rfl) rfl (gin_c (mem_at i9wsX11_purge_3 17 rfl) rfl (gin_c (mem_at i9wsX11_purge_3 18 rfl) rfl (gin_c (mem_at i9wsX11_purge_3 19 rfl) rfl (gin_c (mem_at i9wsX11_purge_3 20 rfl) rfl (gin_c (mem_at i9wsX11_purge_3 21 rfl) rfl (gin_c (mem_at i9wsX11_purge_3 22 rfl) rfl (gin_c (mem_at i9wsX11_purge_3 23 rfl) rfl (gin_c (mem_at i9wsX11_purge_4 0 rfl) rfl (gin_c (mem_at i9wsX11_purge_4 1 rfl) rfl (gin_c (mem_at i9wsX11_purge_4 2 rfl) rfl (gin_c (mem_at i9wsX11_purge_4 3 rfl) rfl (gin_c (mem_at i9wsX11_purge_4 4 rfl) rfl (gin_c (mem_at i9wsX11_purge_4 5 rfl) rfl (gin_c (mem_at i9wsX11_purge_4 6 rfl) rfl (gin_c (mem_at i9wsX11_purge_4 7 rfl) rfl gin_n)))))))))))))))))))))))) (gin_c (mem_at i9wsX11_purge_4 8 rfl) rfl (gin_c (mem_at i9wsX11_purge_4 9 rfl) rfl (gin_c (mem_at i9wsX11_purge_4 10 rfl) rfl (gin_c (mem_at i9wsX11_purge_4 11 rfl) rfl (gin_c (mem_at i9wsX11_purge_4 12 rfl) rfl (gin_c (mem_at i9wsX11_purge_4 13 rfl) rfl (gin_c (mem_at i9wsX11_purge_4 14 rfl) rfl (gin_c (mem_at i9wsX11_purge_4 15 rfl) rfl (gin_c (mem_at i9wsX11_purge_4 16 rfl) rfl (gin_c (mem_at i9wsX11_purge_4 17 rfl) rfl (gin_c (mem_at i9wsX11_purge_4 18 rfl) rfl (gin_c (mem_at i9wsX11_purge_4 19 rfl) rfl (gin_c (mem_at i9wsX11_purge_4 20 rfl) rfl (gin_c (mem_at i9wsX11_purge_4 21 rfl) rfl gin_n))))))))))))))))) (goodIn_sub i9wsX11_purge_6 g9_5)) (goodIn_sub i9wsX11_purge_8 g9_0)) (goodIn_sub i9wsX11_purge_9 g9_3)) (goodIn_sub i9wsX11_purge_10 g9_1)) (goodIn_sub i9wsX11_purge_11 g9_2)))
set_option maxRecDepth 20000 in
theorem gX11_purge_X9_forgetDead : GoodIn wsX11_purge (wsV RX11 247 RX9 yX9_forgetDead wsX9_forgetDead) := goodIn_app (gin_c (mem_at i9wsX11_purge_1 4 rfl) rfl (gin_c (mem_at i9wsX11_purge_1 5 rfl) rfl (gin_c (mem_at i9wsX11_purge_1 6 rfl) rfl (gin_c (mem_at i9wsX11_purge_1 1 rfl) rfl gin_n)))) ggX11_purge_X9_forgetDead
set_option maxHeartbeats 4000000 in
set_option maxRecDepth 100000 in
theorem T_X11_purge (l : Launch) (hl : l.stackTraces = false) (D : va_G) (cA : Nat → ClassId) {l0 : Option Nat} {l1 : Int32} {x : HS} {Q : Int32 → HS → Prop} {X : String → HS → Prop} (h : w_X11_purge l0 l1 x Q X) : YI l yX11_purge wsX11_purge 8 135 D cA [.q l0, .i l1] x Q X := by
  refine YI.of (cc := cX11_purge) (maxL := 2) (ret := (some .int)) hl (by decide) rfl rfl (fun g B fr => ?_)
  have o := B.o
  have hb := B.hb
  have hts := B.hts
  have hown : g.s.vm.findClass RX11 = some g.m.cls := B.hown
  have in3 : ∀ w ∈ u_ws RX3 TX3 5, w ∈ wsX11_purge := fun w h => (List.mem_cons_of_mem _ (List.mem_append_left _ (List.mem_append_left _ (List.mem_append_left _ (List.mem_append_left _ (List.mem_append_left _ (List.mem_append_left _ (List.mem_append_right _ h))))))))
  have in9 : ∀ w ∈ u_ws RX9 TX9 8, w ∈ wsX11_purge := fun w h => (List.mem_cons_of_mem _ (List.mem_append_left _ (List.mem_append_left _ (List.mem_append_left _ (List.mem_append_left _ (List.mem_append_left _ (List.mem_append_left _ (List.mem_append_left _ (List.mem_append_right _ h)))))))))
  have in11 : ∀ w ∈ u_ws RX11 TX11 12, w ∈ wsX11_purge := fun w h => (List.mem_cons_of_mem _ (List.mem_append_left _ (List.mem_append_left _ (List.mem_append_left _ (List.mem_append_left _ (List.mem_append_left _ (List.mem_append_left _ (List.mem_append_left _ (List.mem_append_left _ (List.mem_append_right _ h))))))))))
  unfold w_X11_purge at h
  show KW g 2 0 [(0, .q l0), (1, .i l1)] [] x
  refine k_aload_n o hb dX11_purge_0 rfl 0 rfl ?_
  refine k_iload_n o hb dX11_purge_1 rfl 1 rfl ?_
  refine k_run_v o (fun _ _ q => q) (k_runV (ci := 11) (rc := (RX11, TX11, 12)) o hb B.hml hown hts rfl (by decide) (T_X11_requireTime g.l o.hl g.D g.cA h.2) (cwV 1 hts gX11_purge_X11_requireTime rfl rfl rfl (by decide +kernel) ⟨yle B.hR1 rfl, yle B.hR2 rfl⟩) h.1 rfl rfl (Nat.le_of_ble_eq_true rfl) dX11_purge_2) (fun x1 h => ?_)
  refine k_aload_n o hb dX11_purge_5 rfl 0 rfl ?_
  refine k_run_i o (fun _ _ q => q) (k_runV (ci := 11) (rc := (RX11, TX11, 12)) o hb B.hml hown hts rfl (by decide) (T_X11_openCursors g.l o.hl g.D g.cA h.2) (cwV 0 hts gX11_purge_X11_openCursors rfl rfl rfl (by decide +kernel) ⟨yle B.hR1 rfl, yle B.hR2 rfl⟩) h.1 rfl rfl (Nat.le_of_ble_eq_true rfl) dX11_purge_6) (fun v4 x3 h => ?_)
  refine wJoin_elim (M := fun K => ∀  (x6 : HS), K  x6 → KW g 2 25 [] [] x6) h ?_ (fun j5 hj5 h => ?_)
  · skip
    intro  x6 h
    refine k_throw (E := eIS) o (fun H locs cells slots mc ms ls XC hls hS hc1 hs1 hc2 hs2 hx9 => ?_) h
    obtain ⟨sa, hsa⟩ := o.hZ.2.2.2.2.2.2.1.2.2.2.2.2.2.2.2.2.2.2.2.2.1
    exact vx_throwS (cls := eIS) (names := eSup) (A := g.A) o.hx hb o.hl hown (by decide +kernel) (by decide +kernel) (hts (.classLink RX11 79 "java/lang/IllegalStateException") (by decide +kernel)) (hts (.initialized "java/lang/IllegalStateException") (by decide +kernel)) hsa (tx_at hts (fun w h => (List.mem_cons_of_mem _ (List.mem_append_left _ (List.mem_append_right _ h)))) (by decide +kernel) o.hZ.2.2.2.1.2.2.1 o.hZ.2.2.2.2.2.2.2) (by decide +kernel) o.hZ.1 o.hZ.2.1 hS (hls.trans B.hml.symm) dX11_purge_25 dX11_purge_28 dX11_purge_29 dX11_purge_31 dX11_purge_34 (fun x h => (o.htb x h).elim) (ylt B.hR1 rfl) (by rw [lq_cats]; exact yle B.hR2 rfl) hc1 hs1 o.hlk (fun t ha h1 h2 => hx9 t ha h1 h2) hS.2.2 hc2 hs2
  · skip
    refine k_if_gt (tgt := 25) o hb dX11_purge_9 (by decide) h (fun h => ?_) (fun h => ?_)
    · skip
      exact KW.sub [] rfl (hj5 x3 h)
    · skip
      refine k_aload_n o hb dX11_purge_12 rfl 0 rfl ?_
      refine k_getF (C := RX11) (T := TX11) (N := 12) o hb hts in11 hown rfl (by decide) 2 (by decide) rfl (hts (.fieldLink RX11 20 "FactKeeper" "store" "LFactKeeper$Store;") (by decide +kernel)) (fun _ h9 => h9) dX11_purge_13 h (fun v7 h => ?_)
      refine k_getF (C := RX9) (T := TX9) (N := 8) o hb hts in9 hown rfl (by decide) 2 (by decide) rfl (hts (.fieldLink RX11 207 "FactKeeper$Store" "history" "LFactKeeper$History;") (by decide +kernel)) (fun _ h9 => h9) dX11_purge_16 h (fun v8 h => ?_)
      refine k_getI (C := RX3) (T := TX3) (N := 5) o hb hts in3 hown rfl (by decide) 4 (by decide) rfl (hts (.fieldLink RX11 219 "FactKeeper$History" "markCount" "I") (by decide +kernel)) (fun _ h9 => h9) dX11_purge_19 h (fun v9 h => ?_)
      refine k_if_le (tgt := 35) o hb dX11_purge_22 (by decide) h (fun h => ?_) (fun h => ?_)
      · skip
        refine k_aload_n o hb dX11_purge_35 rfl 0 rfl ?_
        refine k_getF (C := RX11) (T := TX11) (N := 12) o hb hts in11 hown rfl (by decide) 2 (by decide) rfl (hts (.fieldLink RX11 20 "FactKeeper" "store" "LFactKeeper$Store;") (by decide +kernel)) (fun _ h9 => h9) dX11_purge_36 h (fun v10 h => ?_)
        refine k_aload_n o hb dX11_purge_39 rfl 0 rfl ?_
        refine k_getF (C := RX11) (T := TX11) (N := 12) o hb hts in11 hown rfl (by decide) 2 (by decide) rfl (hts (.fieldLink RX11 20 "FactKeeper" "store" "LFactKeeper$Store;") (by decide +kernel)) (fun _ h9 => h9) dX11_purge_40 h (fun v11 h => ?_)
        refine k_iload_n o hb dX11_purge_43 rfl 1 rfl ?_
        refine k_run_i o (fun _ _ q => q) (k_runV (ci := 9) (rc := (RX9, TX9, 8)) o hb B.hml hown hts rfl (by decide) (T_X9_timeOf g.l o.hl g.D g.cA h.2) (cwV 1 hts gX11_purge_X9_timeOf rfl rfl rfl (by decide +kernel) ⟨yle B.hR1 rfl, yle B.hR2 rfl⟩) h.1 rfl rfl (Nat.le_of_ble_eq_true rfl) dX11_purge_44) (fun v13 x12 h => ?_)
        refine k_run_i o (fun _ _ q => q) (k_runV (ci := 9) (rc := (RX9, TX9, 8)) o hb B.hml hown hts rfl (by decide) (T_X9_forgetDead g.l o.hl g.D g.cA h.2) (cwV 1 hts gX11_purge_X9_forgetDead rfl rfl rfl (by decide +kernel) ⟨yle B.hR1 rfl, yle B.hR2 rfl⟩) h.1 rfl rfl (Nat.le_of_ble_eq_true rfl) dX11_purge_47) (fun v15 x14 h => ?_)
        exact k_iret o hb B.hr fr dX11_purge_50 h
      · skip
        exact KW.sub [] rfl (hj5 x3 h)
theorem dX11_putFound_0 : decode cX11_putFound 0 = .ok (.aload_n 0, 1) := by decide +kernel
theorem dX11_putFound_1 : decode cX11_putFound 1 = .ok (.getfield 250, 3) := by decide +kernel
theorem dX11_putFound_4 : decode cX11_putFound 4 = .ok (.sipush 3000, 3) := by decide +kernel
theorem dX11_putFound_7 : decode cX11_putFound 7 = .ok (.if_icmp .ge 23, 3) := by decide +kernel
theorem dX11_putFound_10 : decode cX11_putFound 10 = .ok (.aload_n 0, 1) := by decide +kernel
theorem dX11_putFound_11 : decode cX11_putFound 11 = .ok (.getfield 34, 3) := by decide +kernel
theorem dX11_putFound_14 : decode cX11_putFound 14 = .ok (.aload_n 0, 1) := by decide +kernel
theorem dX11_putFound_15 : decode cX11_putFound 15 = .ok (.getfield 250, 3) := by decide +kernel
theorem dX11_putFound_18 : decode cX11_putFound 18 = .ok (.iload_n 1, 1) := by decide +kernel
theorem dX11_putFound_19 : decode cX11_putFound 19 = .ok (.iastore, 1) := by decide +kernel
theorem dX11_putFound_20 : decode cX11_putFound 20 = .ok (.aload_n 0, 1) := by decide +kernel
theorem dX11_putFound_21 : decode cX11_putFound 21 = .ok (.dup, 1) := by decide +kernel
theorem dX11_putFound_22 : decode cX11_putFound 22 = .ok (.getfield 250, 3) := by decide +kernel
theorem dX11_putFound_25 : decode cX11_putFound 25 = .ok (.iconst 1, 1) := by decide +kernel
theorem dX11_putFound_26 : decode cX11_putFound 26 = .ok (.iadd, 1) := by decide +kernel
theorem dX11_putFound_27 : decode cX11_putFound 27 = .ok (.putfield 250, 3) := by decide +kernel
theorem dX11_putFound_30 : decode cX11_putFound 30 = .ok (.return_, 1) := by decide +kernel
set_option maxHeartbeats 4000000 in
set_option maxRecDepth 100000 in
theorem T_X11_putFound (l : Launch) (hl : l.stackTraces = false) (D : va_G) (cA : Nat → ClassId) {l0 : Option Nat} {l1 : Int32} {x : HS} {Q : HS → Prop} {X : String → HS → Prop} (h : w_X11_putFound l0 l1 x Q X) : YV l yX11_putFound wsX11_putFound 0 0 D cA [.q l0, .i l1] x Q X := by
  refine YV.of (cc := cX11_putFound) (maxL := 2) (ret := none) hl (by decide) rfl rfl (fun g B fr => ?_)
  have o := B.o
  have hb := B.hb
  have hts := B.hts
  have hown : g.s.vm.findClass RX11 = some g.m.cls := B.hown
  have in11 : ∀ w ∈ u_ws RX11 TX11 12, w ∈ wsX11_putFound := fun w h => (List.mem_cons_of_mem _ (List.mem_append_right _ h))
  unfold w_X11_putFound at h
  show KW g 2 0 [(0, .q l0), (1, .i l1)] [] x
  refine k_aload_n o hb dX11_putFound_0 rfl 0 rfl ?_
  refine k_getI (C := RX11) (T := TX11) (N := 12) o hb hts in11 hown rfl (by decide) 10 (by decide) rfl (hts (.fieldLink RX11 250 "FactKeeper" "foundCount" "I") (by decide +kernel)) (fun _ h9 => h9) dX11_putFound_1 h (fun v1 h => ?_)
  refine k_sipush (v := 3000) o hb dX11_putFound_4 (by decide) ?_
  refine wJoin_elim (M := fun K => ∀  (x3 : HS), K  x3 → KW g 2 30 [] [] x3) h ?_ (fun j2 hj2 h => ?_)
  · skip
    intro  x3 h
    exact k_vret o hb B.hr fr dX11_putFound_30 h
  · skip
    refine k_icmp_ge (tgt := 30) o hb dX11_putFound_7 (by decide) h (fun h => ?_) (fun h => ?_)
    · skip
      exact KW.sub [] rfl (hj2 x h)
    · skip
      refine k_aload_n o hb dX11_putFound_10 rfl 0 rfl ?_
      refine k_getF (C := RX11) (T := TX11) (N := 12) o hb hts in11 hown rfl (by decide) 5 (by decide) rfl (hts (.fieldLink RX11 34 "FactKeeper" "found" "[I") (by decide +kernel)) (fun _ h9 => h9) dX11_putFound_11 h (fun v4 h => ?_)
      refine k_aload_n o hb dX11_putFound_14 rfl 0 rfl ?_
      refine k_getI (C := RX11) (T := TX11) (N := 12) o hb hts in11 hown rfl (by decide) 10 (by decide) rfl (hts (.fieldLink RX11 250 "FactKeeper" "foundCount" "I") (by decide +kernel)) (fun _ h9 => h9) dX11_putFound_15 h (fun v5 h => ?_)
      refine k_iload_n o hb dX11_putFound_18 rfl 1 rfl ?_
      refine k_iast o hb dX11_putFound_19 h (fun x6 h => ?_)
      refine k_aload_n o hb dX11_putFound_20 rfl 0 rfl ?_
      refine k_dup o hb dX11_putFound_21 ?_
      refine k_getI (C := RX11) (T := TX11) (N := 12) o hb hts in11 hown rfl (by decide) 10 (by decide) rfl (hts (.fieldLink RX11 250 "FactKeeper" "foundCount" "I") (by decide +kernel)) (fun _ h9 => h9) dX11_putFound_22 h (fun v7 h => ?_)
      refine k_iconst (v := 1) o hb dX11_putFound_25 (by decide) ?_
      refine k_iadd o hb dX11_putFound_26 ?_
      refine k_putI (C := RX11) (T := TX11) (N := 12) (ty := .int) o hb hts in11 tyX11 tyX11_ok nmX11 hown rfl (by decide) 10 (by decide) rfl (hts (.fieldLink RX11 250 "FactKeeper" "foundCount" "I") (by decide +kernel)) (fun _ h9 => h9) rfl (by decide +kernel) (fun _ => rfl) (fun _ => rfl) dX11_putFound_27 h (fun x8 h => ?_)
      exact KW.sub [] rfl (hj2 x8 h)
theorem dX11_changes_0 : decode cX11_changes 0 = .ok (.aload_n 0, 1) := by decide +kernel
theorem dX11_changes_1 : decode cX11_changes 1 = .ok (.iload_n 2, 1) := by decide +kernel
theorem dX11_changes_2 : decode cX11_changes 2 = .ok (.invokevirtual 236, 3) := by decide +kernel
theorem dX11_changes_5 : decode cX11_changes 5 = .ok (.aload_n 0, 1) := by decide +kernel
theorem dX11_changes_6 : decode cX11_changes 6 = .ok (.iload_n 3, 1) := by decide +kernel
theorem dX11_changes_7 : decode cX11_changes 7 = .ok (.invokevirtual 236, 3) := by decide +kernel
theorem dX11_changes_10 : decode cX11_changes 10 = .ok (.aload_n 0, 1) := by decide +kernel
theorem dX11_changes_11 : decode cX11_changes 11 = .ok (.iload_n 1, 1) := by decide +kernel
theorem dX11_changes_12 : decode cX11_changes 12 = .ok (.invokevirtual 84, 3) := by decide +kernel
theorem dX11_changes_15 : decode cX11_changes 15 = .ok (.astore 4, 2) := by decide +kernel
theorem dX11_changes_17 : decode cX11_changes 17 = .ok (.aload_n 0, 1) := by decide +kernel
theorem dX11_changes_18 : decode cX11_changes 18 = .ok (.getfield 20, 3) := by decide +kernel
theorem dX11_changes_21 : decode cX11_changes 21 = .ok (.iload_n 2, 1) := by decide +kernel
theorem dX11_changes_22 : decode cX11_changes 22 = .ok (.invokevirtual 244, 3) := by decide +kernel
theorem dX11_changes_25 : decode cX11_changes 25 = .ok (.istore 5, 2) := by decide +kernel
theorem dX11_changes_27 : decode cX11_changes 27 = .ok (.aload_n 0, 1) := by decide +kernel
theorem dX11_changes_28 : decode cX11_changes 28 = .ok (.getfield 20, 3) := by decide +kernel
theorem dX11_changes_31 : decode cX11_changes 31 = .ok (.iload_n 3, 1) := by decide +kernel
theorem dX11_changes_32 : decode cX11_changes 32 = .ok (.invokevirtual 244, 3) := by decide +kernel
theorem dX11_changes_35 : decode cX11_changes 35 = .ok (.istore 6, 2) := by decide +kernel
theorem dX11_changes_37 : decode cX11_changes 37 = .ok (.aload_n 0, 1) := by decide +kernel
theorem dX11_changes_38 : decode cX11_changes 38 = .ok (.iconst 0, 1) := by decide +kernel
theorem dX11_changes_39 : decode cX11_changes 39 = .ok (.putfield 250, 3) := by decide +kernel
theorem dX11_changes_42 : decode cX11_changes 42 = .ok (.aload 4, 2) := by decide +kernel
theorem dX11_changes_44 : decode cX11_changes 44 = .ok (.getfield 196, 3) := by decide +kernel
theorem dX11_changes_47 : decode cX11_changes 47 = .ok (.getfield 253, 3) := by decide +kernel
theorem dX11_changes_50 : decode cX11_changes 50 = .ok (.astore 7, 2) := by decide +kernel
theorem dX11_changes_52 : decode cX11_changes 52 = .ok (.aload 7, 2) := by decide +kernel
theorem dX11_changes_54 : decode cX11_changes 54 = .ok (.ifnull 44, 3) := by decide +kernel
theorem dX11_changes_57 : decode cX11_changes 57 = .ok (.aload 7, 2) := by decide +kernel
theorem dX11_changes_59 : decode cX11_changes 59 = .ok (.iload 6, 2) := by decide +kernel
theorem dX11_changes_61 : decode cX11_changes 61 = .ok (.invokevirtual 257, 3) := by decide +kernel
theorem dX11_changes_64 : decode cX11_changes 64 = .ok (.ifCond .eq 22, 3) := by decide +kernel
theorem dX11_changes_67 : decode cX11_changes 67 = .ok (.aload 7, 2) := by decide +kernel
theorem dX11_changes_69 : decode cX11_changes 69 = .ok (.iload 5, 2) := by decide +kernel
theorem dX11_changes_71 : decode cX11_changes 71 = .ok (.invokevirtual 257, 3) := by decide +kernel
theorem dX11_changes_74 : decode cX11_changes 74 = .ok (.ifCond .ne 12, 3) := by decide +kernel
theorem dX11_changes_77 : decode cX11_changes 77 = .ok (.aload_n 0, 1) := by decide +kernel
theorem dX11_changes_78 : decode cX11_changes 78 = .ok (.aload 7, 2) := by decide +kernel
theorem dX11_changes_80 : decode cX11_changes 80 = .ok (.getfield 133, 3) := by decide +kernel
theorem dX11_changes_83 : decode cX11_changes 83 = .ok (.invokevirtual 260, 3) := by decide +kernel
theorem dX11_changes_86 : decode cX11_changes 86 = .ok (.aload 7, 2) := by decide +kernel
theorem dX11_changes_88 : decode cX11_changes 88 = .ok (.getfield 263, 3) := by decide +kernel
theorem dX11_changes_91 : decode cX11_changes 91 = .ok (.iconst 4, 1) := by decide +kernel
theorem dX11_changes_92 : decode cX11_changes 92 = .ok (.aaload, 1) := by decide +kernel
theorem dX11_changes_93 : decode cX11_changes 93 = .ok (.astore 7, 2) := by decide +kernel
theorem dX11_changes_95 : decode cX11_changes 95 = .ok (.goto (-43), 3) := by decide +kernel
theorem dX11_changes_98 : decode cX11_changes 98 = .ok (.aload 4, 2) := by decide +kernel
theorem dX11_changes_100 : decode cX11_changes 100 = .ok (.getfield 196, 3) := by decide +kernel
theorem dX11_changes_103 : decode cX11_changes 103 = .ok (.getfield 253, 3) := by decide +kernel
theorem dX11_changes_106 : decode cX11_changes 106 = .ok (.astore 7, 2) := by decide +kernel
theorem dX11_changes_108 : decode cX11_changes 108 = .ok (.aload 7, 2) := by decide +kernel
theorem dX11_changes_110 : decode cX11_changes 110 = .ok (.ifnull 46, 3) := by decide +kernel
theorem dX11_changes_113 : decode cX11_changes 113 = .ok (.aload 7, 2) := by decide +kernel
theorem dX11_changes_115 : decode cX11_changes 115 = .ok (.iload 5, 2) := by decide +kernel
theorem dX11_changes_117 : decode cX11_changes 117 = .ok (.invokevirtual 257, 3) := by decide +kernel
theorem dX11_changes_120 : decode cX11_changes 120 = .ok (.ifCond .eq 24, 3) := by decide +kernel
theorem dX11_changes_123 : decode cX11_changes 123 = .ok (.aload 7, 2) := by decide +kernel
theorem dX11_changes_125 : decode cX11_changes 125 = .ok (.iload 6, 2) := by decide +kernel
theorem dX11_changes_127 : decode cX11_changes 127 = .ok (.invokevirtual 257, 3) := by decide +kernel
theorem dX11_changes_130 : decode cX11_changes 130 = .ok (.ifCond .ne 14, 3) := by decide +kernel
theorem dX11_changes_133 : decode cX11_changes 133 = .ok (.aload_n 0, 1) := by decide +kernel
theorem dX11_changes_134 : decode cX11_changes 134 = .ok (.iconst (-1), 1) := by decide +kernel
theorem dX11_changes_135 : decode cX11_changes 135 = .ok (.aload 7, 2) := by decide +kernel
theorem dX11_changes_137 : decode cX11_changes 137 = .ok (.getfield 133, 3) := by decide +kernel
theorem dX11_changes_140 : decode cX11_changes 140 = .ok (.isub, 1) := by decide +kernel
theorem dX11_changes_141 : decode cX11_changes 141 = .ok (.invokevirtual 260, 3) := by decide +kernel
theorem dX11_changes_144 : decode cX11_changes 144 = .ok (.aload 7, 2) := by decide +kernel
theorem dX11_changes_146 : decode cX11_changes 146 = .ok (.getfield 263, 3) := by decide +kernel
theorem dX11_changes_149 : decode cX11_changes 149 = .ok (.iconst 4, 1) := by decide +kernel
theorem dX11_changes_150 : decode cX11_changes 150 = .ok (.aaload, 1) := by decide +kernel
theorem dX11_changes_151 : decode cX11_changes 151 = .ok (.astore 7, 2) := by decide +kernel
theorem dX11_changes_153 : decode cX11_changes 153 = .ok (.goto (-45), 3) := by decide +kernel
theorem dX11_changes_156 : decode cX11_changes 156 = .ok (.aload_n 0, 1) := by decide +kernel
theorem dX11_changes_157 : decode cX11_changes 157 = .ok (.getfield 250, 3) := by decide +kernel
theorem dX11_changes_160 : decode cX11_changes 160 = .ok (.ireturn, 1) := by decide +kernel
theorem i9wsX11_changes_0 : ∀ w ∈ wsX11_changes_r1, w ∈ wsX11_changes := fun _ h => (List.mem_cons_of_mem _ (List.mem_append_left _ (List.mem_append_left _ (List.mem_append_left _ (List.mem_append_left _ (List.mem_append_left _ (List.mem_append_left _ (List.mem_append_left _ (List.mem_append_left _ h)))))))))
theorem i9wsX11_changes_2 : ∀ w ∈ wsX110, w ∈ wsX11_changes := fun _ h => (List.mem_cons_of_mem _ (List.mem_append_left _ (List.mem_append_left _ (List.mem_append_left _ (List.mem_append_left _ (List.mem_append_left _ (List.mem_append_left _ (List.mem_append_right _ h))))))))
theorem i9wsX11_changes_6 : ∀ w ∈ wsX90, w ∈ wsX11_changes := fun _ h => (List.mem_cons_of_mem _ (List.mem_append_left _ (List.mem_append_left _ (List.mem_append_right _ h))))
theorem i9wsX11_changes_7 : ∀ w ∈ ((vx_atS RX11 340 "java/lang/IllegalArgumentException" ["java/lang/RuntimeException", "java/lang/Exception"]).filter goodWord), w ∈ wsX11_changes := fun _ h => (List.mem_cons_of_mem _ (List.mem_append_left _ (List.mem_append_right _ h)))
set_option maxRecDepth 20000 in
theorem ggX11_changes_X11_requireTime : GoodIn wsX11_changes wsX11_requireTime := (gin_c (mem_at i9wsX11_changes_0 10 rfl) rfl (goodIn_app (goodIn_app (goodIn_app (gin_c (mem_at i9wsX11_changes_0 0 rfl) rfl (gin_c (mem_at i9wsX11_changes_0 11 rfl) rfl (gin_c (mem_at i9wsX11_changes_0 12 rfl) rfl (gin_c (mem_at i9wsX11_changes_0 13 rfl) rfl (gin_c (mem_at i9wsX11_changes_0 14 rfl) rfl (gin_c (mem_at i9wsX11_changes_0 9 rfl) rfl (gin_c (mem_at i9wsX11_changes_0 15 rfl) rfl (gin_c (mem_at i9wsX11_changes_0 16 rfl) rfl (gin_c (mem_at i9wsX11_changes_0 17 rfl) rfl gin_n))))))))) (goodIn_sub i9wsX11_changes_2 g9_13)) (goodIn_sub i9wsX11_changes_6 g9_5)) (goodIn_sub i9wsX11_changes_7 g9_14)))
set_option maxRecDepth 20000 in
theorem gX11_changes_X11_requireTime : GoodIn wsX11_changes (wsV RX11 236 RX11 yX11_requireTime wsX11_requireTime) := goodIn_app (gin_c (mem_at i9wsX11_changes_0 6 rfl) rfl (gin_c (mem_at i9wsX11_changes_0 7 rfl) rfl (gin_c (mem_at i9wsX11_changes_0 8 rfl) rfl (gin_c (mem_at i9wsX11_changes_0 9 rfl) rfl gin_n)))) ggX11_changes_X11_requireTime
theorem i9wsX11_changes_1 : ∀ w ∈ wsX11_changes_r2, w ∈ wsX11_changes := fun _ h => (List.mem_cons_of_mem _ (List.mem_append_left _ (List.mem_append_left _ (List.mem_append_left _ (List.mem_append_left _ (List.mem_append_left _ (List.mem_append_left _ (List.mem_append_left _ (List.mem_append_right _ h)))))))))
theorem i9wsX11_changes_8 : ∀ w ∈ ((tn_at RX11 184 "java/util/NoSuchElementException").filter goodWord), w ∈ wsX11_changes := fun _ h => (List.mem_cons_of_mem _ (List.mem_append_right _ h))
set_option maxRecDepth 20000 in
theorem ggX11_changes_X11_tableOf : GoodIn wsX11_changes wsX11_tableOf := (gin_c (mem_at i9wsX11_changes_0 21 rfl) rfl (goodIn_app (goodIn_app (goodIn_app (gin_c (mem_at i9wsX11_changes_0 22 rfl) rfl (gin_c (mem_at i9wsX11_changes_0 23 rfl) rfl (gin_c (mem_at i9wsX11_changes_0 0 rfl) rfl (gin_c (mem_at i9wsX11_changes_1 0 rfl) rfl (gin_c (mem_at i9wsX11_changes_1 1 rfl) rfl (gin_c (mem_at i9wsX11_changes_1 2 rfl) rfl (gin_c (mem_at i9wsX11_changes_1 3 rfl) rfl (gin_c (mem_at i9wsX11_changes_1 4 rfl) rfl (gin_c (mem_at i9wsX11_changes_1 5 rfl) rfl (gin_c (mem_at i9wsX11_changes_1 6 rfl) rfl gin_n)))))))))) (goodIn_sub i9wsX11_changes_2 g9_13)) (goodIn_sub i9wsX11_changes_6 g9_5)) (goodIn_sub i9wsX11_changes_8 g9_15)))
set_option maxRecDepth 20000 in
theorem gX11_changes_X11_tableOf : GoodIn wsX11_changes (wsV RX11 84 RX11 yX11_tableOf wsX11_tableOf) := goodIn_app (gin_c (mem_at i9wsX11_changes_0 18 rfl) rfl (gin_c (mem_at i9wsX11_changes_0 19 rfl) rfl (gin_c (mem_at i9wsX11_changes_0 20 rfl) rfl (gin_c (mem_at i9wsX11_changes_0 9 rfl) rfl gin_n)))) ggX11_changes_X11_tableOf
set_option maxRecDepth 20000 in
theorem ggX11_changes_X9_timeOf : GoodIn wsX11_changes wsX9_timeOf := (gin_c (mem_at i9wsX11_changes_1 10 rfl) rfl (goodIn_app (gin_c (mem_at i9wsX11_changes_1 11 rfl) rfl gin_n) (goodIn_sub i9wsX11_changes_6 g9_5)))
set_option maxRecDepth 20000 in
theorem gX11_changes_X9_timeOf : GoodIn wsX11_changes (wsV RX11 244 RX9 yX9_timeOf wsX9_timeOf) := goodIn_app (gin_c (mem_at i9wsX11_changes_1 7 rfl) rfl (gin_c (mem_at i9wsX11_changes_1 8 rfl) rfl (gin_c (mem_at i9wsX11_changes_1 9 rfl) rfl (gin_c (mem_at i9wsX11_changes_1 3 rfl) rfl gin_n)))) ggX11_changes_X9_timeOf
theorem i9wsX11_changes_5 : ∀ w ∈ wsX10, w ∈ wsX11_changes := fun _ h => (List.mem_cons_of_mem _ (List.mem_append_left _ (List.mem_append_left _ (List.mem_append_left _ (List.mem_append_right _ h)))))
set_option maxRecDepth 20000 in
theorem ggX11_changes_X1_isThere : GoodIn wsX11_changes wsX1_isThere := (gin_c (mem_at i9wsX11_changes_1 16 rfl) rfl (goodIn_app (gin_c (mem_at i9wsX11_changes_1 17 rfl) rfl (gin_c (mem_at i9wsX11_changes_1 18 rfl) rfl gin_n)) (goodIn_sub i9wsX11_changes_5 g9_0)))
set_option maxRecDepth 20000 in
theorem gX11_changes_X1_isThere : GoodIn wsX11_changes (wsV RX11 257 RX1 yX1_isThere wsX1_isThere) := goodIn_app (gin_c (mem_at i9wsX11_changes_1 12 rfl) rfl (gin_c (mem_at i9wsX11_changes_1 13 rfl) rfl (gin_c (mem_at i9wsX11_changes_1 14 rfl) rfl (gin_c (mem_at i9wsX11_changes_1 15 rfl) rfl gin_n)))) ggX11_changes_X1_isThere
set_option maxRecDepth 20000 in
theorem ggX11_changes_X11_putFound : GoodIn wsX11_changes wsX11_putFound := (gin_c (mem_at i9wsX11_changes_1 22 rfl) rfl (goodIn_app (gin_c (mem_at i9wsX11_changes_0 1 rfl) rfl (gin_c (mem_at i9wsX11_changes_1 23 rfl) rfl gin_n)) (goodIn_sub i9wsX11_changes_2 g9_13)))
set_option maxRecDepth 20000 in
theorem gX11_changes_X11_putFound : GoodIn wsX11_changes (wsV RX11 260 RX11 yX11_putFound wsX11_putFound) := goodIn_app (gin_c (mem_at i9wsX11_changes_1 19 rfl) rfl (gin_c (mem_at i9wsX11_changes_1 20 rfl) rfl (gin_c (mem_at i9wsX11_changes_1 21 rfl) rfl (gin_c (mem_at i9wsX11_changes_0 9 rfl) rfl gin_n)))) ggX11_changes_X11_putFound
set_option maxHeartbeats 4000000 in
set_option maxRecDepth 100000 in
theorem T_X11_changes (l : Launch) (hl : l.stackTraces = false) (D : va_G) (cA : Nat → ClassId) {l0 : Option Nat} {l1 : Int32} {l2 : Int32} {l3 : Int32} {x : HS} {Q : Int32 → HS → Prop} {X : String → HS → Prop} (h : w_X11_changes l0 l1 l2 l3 x Q X) : YI l yX11_changes wsX11_changes 8 133 D cA [.q l0, .i l1, .i l2, .i l3] x Q X := by
  refine YI.of (cc := cX11_changes) (maxL := 8) (ret := (some .int)) hl (by decide) rfl rfl (fun g B fr => ?_)
  have o := B.o
  have hb := B.hb
  have hts := B.hts
  have hown : g.s.vm.findClass RX11 = some g.m.cls := B.hown
  have in0 : ∀ w ∈ u_ws RX0 TX0 5, w ∈ wsX11_changes := fun w h => (List.mem_cons_of_mem _ (List.mem_append_left _ (List.mem_append_left _ (List.mem_append_left _ (List.mem_append_left _ (List.mem_append_right _ h))))))
  have in1 : ∀ w ∈ u_ws RX1 TX1 7, w ∈ wsX11_changes := fun w h => (List.mem_cons_of_mem _ (List.mem_append_left _ (List.mem_append_left _ (List.mem_append_left _ (List.mem_append_right _ h)))))
  have in10 : ∀ w ∈ u_ws RX10 TX10 6, w ∈ wsX11_changes := fun w h => (List.mem_cons_of_mem _ (List.mem_append_left _ (List.mem_append_left _ (List.mem_append_left _ (List.mem_append_left _ (List.mem_append_left _ (List.mem_append_right _ h)))))))
  have in11 : ∀ w ∈ u_ws RX11 TX11 12, w ∈ wsX11_changes := fun w h => (List.mem_cons_of_mem _ (List.mem_append_left _ (List.mem_append_left _ (List.mem_append_left _ (List.mem_append_left _ (List.mem_append_left _ (List.mem_append_left _ (List.mem_append_right _ h))))))))
  unfold w_X11_changes at h
  show KW g 8 0 [(0, .q l0), (1, .i l1), (2, .i l2), (3, .i l3)] [] x
  refine k_aload_n o hb dX11_changes_0 rfl 0 rfl ?_
  refine k_iload_n o hb dX11_changes_1 rfl 2 rfl ?_
  refine k_run_v o (fun _ _ q => q) (k_runV (ci := 11) (rc := (RX11, TX11, 12)) o hb B.hml hown hts rfl (by decide) (T_X11_requireTime g.l o.hl g.D g.cA h.2) (cwV 1 hts gX11_changes_X11_requireTime rfl rfl rfl (by decide +kernel) ⟨yle B.hR1 rfl, yle B.hR2 rfl⟩) h.1 rfl rfl (Nat.le_of_ble_eq_true rfl) dX11_changes_2) (fun x1 h => ?_)
  refine k_aload_n o hb dX11_changes_5 rfl 0 rfl ?_
  refine k_iload_n o hb dX11_changes_6 rfl 3 rfl ?_
  refine k_run_v o (fun _ _ q => q) (k_runV (ci := 11) (rc := (RX11, TX11, 12)) o hb B.hml hown hts rfl (by decide) (T_X11_requireTime g.l o.hl g.D g.cA h.2) (cwV 1 hts gX11_changes_X11_requireTime rfl rfl rfl (by decide +kernel) ⟨yle B.hR1 rfl, yle B.hR2 rfl⟩) h.1 rfl rfl (Nat.le_of_ble_eq_true rfl) dX11_changes_7) (fun x3 h => ?_)
  refine k_aload_n o hb dX11_changes_10 rfl 0 rfl ?_
  refine k_iload_n o hb dX11_changes_11 rfl 1 rfl ?_
  refine k_run_q o (fun _ _ q => q) (k_runV (ci := 11) (rc := (RX11, TX11, 12)) o hb B.hml hown hts rfl (by decide) (T_X11_tableOf g.l o.hl g.D g.cA h.2) (cwV 1 hts gX11_changes_X11_tableOf rfl rfl rfl (by decide +kernel) ⟨yle B.hR1 rfl, yle B.hR2 rfl⟩) h.1 rfl rfl (Nat.le_of_ble_eq_true rfl) dX11_changes_12) (fun v6 x5 h => ?_)
  refine k_astore o hb dX11_changes_15 rfl ?_
  refine k_aload_n o hb dX11_changes_17 rfl 1 rfl ?_
  refine k_getF (C := RX11) (T := TX11) (N := 12) o hb hts in11 hown rfl (by decide) 2 (by decide) rfl (hts (.fieldLink RX11 20 "FactKeeper" "store" "LFactKeeper$Store;") (by decide +kernel)) (fun _ h9 => h9) dX11_changes_18 h (fun v7 h => ?_)
  refine k_iload_n o hb dX11_changes_21 rfl 3 rfl ?_
  refine k_run_i o (fun _ _ q => q) (k_runV (ci := 9) (rc := (RX9, TX9, 8)) o hb B.hml hown hts rfl (by decide) (T_X9_timeOf g.l o.hl g.D g.cA h.2) (cwV 1 hts gX11_changes_X9_timeOf rfl rfl rfl (by decide +kernel) ⟨yle B.hR1 rfl, yle B.hR2 rfl⟩) h.1 rfl rfl (Nat.le_of_ble_eq_true rfl) dX11_changes_22) (fun v9 x8 h => ?_)
  refine k_istore o hb dX11_changes_25 rfl ?_
  refine k_aload_n o hb dX11_changes_27 rfl 2 rfl ?_
  refine k_getF (C := RX11) (T := TX11) (N := 12) o hb hts in11 hown rfl (by decide) 2 (by decide) rfl (hts (.fieldLink RX11 20 "FactKeeper" "store" "LFactKeeper$Store;") (by decide +kernel)) (fun _ h9 => h9) dX11_changes_28 h (fun v10 h => ?_)
  refine k_iload_n o hb dX11_changes_31 rfl 5 rfl ?_
  refine k_run_i o (fun _ _ q => q) (k_runV (ci := 9) (rc := (RX9, TX9, 8)) o hb B.hml hown hts rfl (by decide) (T_X9_timeOf g.l o.hl g.D g.cA h.2) (cwV 1 hts gX11_changes_X9_timeOf rfl rfl rfl (by decide +kernel) ⟨yle B.hR1 rfl, yle B.hR2 rfl⟩) h.1 rfl rfl (Nat.le_of_ble_eq_true rfl) dX11_changes_32) (fun v12 x11 h => ?_)
  refine k_istore o hb dX11_changes_35 rfl ?_
  refine k_aload_n o hb dX11_changes_37 rfl 3 rfl ?_
  refine k_iconst (v := 0) o hb dX11_changes_38 (by decide) ?_
  refine k_putI (C := RX11) (T := TX11) (N := 12) (ty := .int) o hb hts in11 tyX11 tyX11_ok nmX11 hown rfl (by decide) 10 (by decide) rfl (hts (.fieldLink RX11 250 "FactKeeper" "foundCount" "I") (by decide +kernel)) (fun _ h9 => h9) rfl (by decide +kernel) (fun _ => rfl) (fun _ => rfl) dX11_changes_39 h (fun x13 h => ?_)
  refine k_aload o hb dX11_changes_42 2 rfl ?_
  refine k_getF (C := RX10) (T := TX10) (N := 6) o hb hts in10 hown rfl (by decide) 2 (by decide) rfl (hts (.fieldLink RX11 196 "FactKeeper$Table" "row" "LFactKeeper$Chain;") (by decide +kernel)) (fun _ h9 => h9) dX11_changes_44 h (fun v14 h => ?_)
  refine k_getF (C := RX0) (T := TX0) (N := 5) o hb hts in0 hown rfl (by decide) 3 (by decide) rfl (hts (.fieldLink RX11 253 "FactKeeper$Chain" "first" "LFactKeeper$Fact;") (by decide +kernel)) (fun _ h9 => h9) dX11_changes_47 h (fun v15 h => ?_)
  refine k_astore o hb dX11_changes_50 rfl ?_
  refine KW.sub [4, 3, 2, 1, 0] rfl ?_
  refine wLoop_elim (M := fun (v19 : Option Nat) (x18 : HS) => KW g 8 52 [(0, .q l0), (4, .q v6), (5, .i v9), (6, .i v12), (7, .q v19)] [] x18) h ?_
  intro v19 x18 again16 ih17 h
  refine k_aload o hb dX11_changes_52 4 rfl ?_
  refine k_ifnull (tgt := 98) o hb dX11_changes_54 (by decide) h (fun h => ?_) (fun h => ?_)
  · skip
    refine k_aload o hb dX11_changes_98 1 rfl ?_
    refine k_getF (C := RX10) (T := TX10) (N := 6) o hb hts in10 hown rfl (by decide) 2 (by decide) rfl (hts (.fieldLink RX11 196 "FactKeeper$Table" "row" "LFactKeeper$Chain;") (by decide +kernel)) (fun _ h9 => h9) dX11_changes_100 h (fun v20 h => ?_)
    refine k_getF (C := RX0) (T := TX0) (N := 5) o hb hts in0 hown rfl (by decide) 3 (by decide) rfl (hts (.fieldLink RX11 253 "FactKeeper$Chain" "first" "LFactKeeper$Fact;") (by decide +kernel)) (fun _ h9 => h9) dX11_changes_103 h (fun v21 h => ?_)
    refine k_astore o hb dX11_changes_106 rfl ?_
    refine KW.sub [1, 3, 4, 0] rfl ?_
    refine wLoop_elim (M := fun (v25 : Option Nat) (x24 : HS) => KW g 8 108 [(0, .q l0), (5, .i v9), (6, .i v12), (7, .q v25)] [] x24) h ?_
    intro v25 x24 again22 ih23 h
    refine k_aload o hb dX11_changes_108 3 rfl ?_
    refine k_ifnull (tgt := 156) o hb dX11_changes_110 (by decide) h (fun h => ?_) (fun h => ?_)
    · skip
      refine k_aload_n o hb dX11_changes_156 rfl 0 rfl ?_
      refine k_getI (C := RX11) (T := TX11) (N := 12) o hb hts in11 hown rfl (by decide) 10 (by decide) rfl (hts (.fieldLink RX11 250 "FactKeeper" "foundCount" "I") (by decide +kernel)) (fun _ h9 => h9) dX11_changes_157 h (fun v26 h => ?_)
      exact k_iret o hb B.hr fr dX11_changes_160 h
    · skip
      refine k_aload o hb dX11_changes_113 3 rfl ?_
      refine k_iload o hb dX11_changes_115 1 rfl ?_
      refine k_run_i o (fun _ _ q => q) (k_runV (ci := 1) (rc := (RX1, TX1, 7)) o hb B.hml hown hts rfl (by decide) (T_X1_isThere g.l o.hl g.D g.cA h.2) (cwV 1 hts gX11_changes_X1_isThere rfl rfl rfl (by decide +kernel) ⟨yle B.hR1 rfl, yle B.hR2 rfl⟩) h.1 rfl rfl (Nat.le_of_ble_eq_true rfl) dX11_changes_117) (fun v28 x27 h => ?_)
      refine wJoin_elim (M := fun K => ∀  (x30 : HS), K  x30 → KW g 8 144 [(0, .q l0), (5, .i v9), (6, .i v12), (7, .q v25)] [] x30) h ?_ (fun j29 hj29 h => ?_)
      · skip
        intro  x30 h
        refine k_aload o hb dX11_changes_144 3 rfl ?_
        refine k_getF (C := RX1) (T := TX1) (N := 7) o hb hts in1 hown rfl (by decide) 1 (by decide) rfl (hts (.fieldLink RX11 263 "FactKeeper$Fact" "behind" "[LFactKeeper$Fact;") (by decide +kernel)) (fun _ h9 => h9) dX11_changes_146 h (fun v31 h => ?_)
        refine k_iconst (v := 4) o hb dX11_changes_149 (by decide) ?_
        refine k_aald (kd := 25) (t0 := 4) o hb rfl (by decide) dX11_changes_150 h (fun v32 h => ?_)
        refine k_astore o hb dX11_changes_151 rfl ?_
        refine k_goto (tgt := 108) o hb dX11_changes_153 (by decide) ?_
        exact KW.sub [1, 2, 3, 0] rfl (ih23 v32 x30 h)
      · skip
        refine k_if_eq (tgt := 144) o hb dX11_changes_120 (by decide) h (fun h => ?_) (fun h => ?_)
        · skip
          exact KW.sub [0, 1, 2, 3] rfl (hj29 x27 h)
        · skip
          refine k_aload o hb dX11_changes_123 3 rfl ?_
          refine k_iload o hb dX11_changes_125 2 rfl ?_
          refine k_run_i o (fun _ _ q => q) (k_runV (ci := 1) (rc := (RX1, TX1, 7)) o hb B.hml hown hts rfl (by decide) (T_X1_isThere g.l o.hl g.D g.cA h.2) (cwV 1 hts gX11_changes_X1_isThere rfl rfl rfl (by decide +kernel) ⟨yle B.hR1 rfl, yle B.hR2 rfl⟩) h.1 rfl rfl (Nat.le_of_ble_eq_true rfl) dX11_changes_127) (fun v34 x33 h => ?_)
          refine k_if_ne (tgt := 144) o hb dX11_changes_130 (by decide) h (fun h => ?_) (fun h => ?_)
          · skip
            refine k_aload_n o hb dX11_changes_133 rfl 0 rfl ?_
            refine k_iconst (v := (-1)) o hb dX11_changes_134 (by decide) ?_
            refine k_aload o hb dX11_changes_135 3 rfl ?_
            refine k_getI (C := RX1) (T := TX1) (N := 7) o hb hts in1 hown rfl (by decide) 4 (by decide) rfl (hts (.fieldLink RX11 133 "FactKeeper$Fact" "number" "I") (by decide +kernel)) (fun _ h9 => h9) dX11_changes_137 h (fun v35 h => ?_)
            refine k_isub o hb dX11_changes_140 ?_
            refine k_run_v o (fun _ _ q => q) (k_runV (ci := 11) (rc := (RX11, TX11, 12)) o hb B.hml hown hts rfl (by decide) (T_X11_putFound g.l o.hl g.D g.cA h.2) (cwV 1 hts gX11_changes_X11_putFound rfl rfl rfl (by decide +kernel) ⟨yle B.hR1 rfl, yle B.hR2 rfl⟩) h.1 rfl rfl (Nat.le_of_ble_eq_true rfl) dX11_changes_141) (fun x36 h => ?_)
            exact KW.sub [0, 1, 2, 3] rfl (hj29 x36 h)
          · skip
            exact KW.sub [0, 1, 2, 3] rfl (hj29 x33 h)
  · skip
    refine k_aload o hb dX11_changes_57 4 rfl ?_
    refine k_iload o hb dX11_changes_59 3 rfl ?_
    refine k_run_i o (fun _ _ q => q) (k_runV (ci := 1) (rc := (RX1, TX1, 7)) o hb B.hml hown hts rfl (by decide) (T_X1_isThere g.l o.hl g.D g.cA h.2) (cwV 1 hts gX11_changes_X1_isThere rfl rfl rfl (by decide +kernel) ⟨yle B.hR1 rfl, yle B.hR2 rfl⟩) h.1 rfl rfl (Nat.le_of_ble_eq_true rfl) dX11_changes_61) (fun v39 x38 h => ?_)
    refine wJoin_elim (M := fun K => ∀  (x41 : HS), K  x41 → KW g 8 86 [(0, .q l0), (4, .q v6), (5, .i v9), (6, .i v12), (7, .q v19)] [] x41) h ?_ (fun j40 hj40 h => ?_)
    · skip
      intro  x41 h
      refine k_aload o hb dX11_changes_86 4 rfl ?_
      refine k_getF (C := RX1) (T := TX1) (N := 7) o hb hts in1 hown rfl (by decide) 1 (by decide) rfl (hts (.fieldLink RX11 263 "FactKeeper$Fact" "behind" "[LFactKeeper$Fact;") (by decide +kernel)) (fun _ h9 => h9) dX11_changes_88 h (fun v42 h => ?_)
      refine k_iconst (v := 4) o hb dX11_changes_91 (by decide) ?_
      refine k_aald (kd := 25) (t0 := 4) o hb rfl (by decide) dX11_changes_92 h (fun v43 h => ?_)
      refine k_astore o hb dX11_changes_93 rfl ?_
      refine k_goto (tgt := 52) o hb dX11_changes_95 (by decide) ?_
      exact KW.sub [1, 2, 3, 4, 0] rfl (ih17 v43 x41 h)
    · skip
      refine k_if_eq (tgt := 86) o hb dX11_changes_64 (by decide) h (fun h => ?_) (fun h => ?_)
      · skip
        exact KW.sub [0, 1, 2, 3, 4] rfl (hj40 x38 h)
      · skip
        refine k_aload o hb dX11_changes_67 4 rfl ?_
        refine k_iload o hb dX11_changes_69 2 rfl ?_
        refine k_run_i o (fun _ _ q => q) (k_runV (ci := 1) (rc := (RX1, TX1, 7)) o hb B.hml hown hts rfl (by decide) (T_X1_isThere g.l o.hl g.D g.cA h.2) (cwV 1 hts gX11_changes_X1_isThere rfl rfl rfl (by decide +kernel) ⟨yle B.hR1 rfl, yle B.hR2 rfl⟩) h.1 rfl rfl (Nat.le_of_ble_eq_true rfl) dX11_changes_71) (fun v45 x44 h => ?_)
        refine k_if_ne (tgt := 86) o hb dX11_changes_74 (by decide) h (fun h => ?_) (fun h => ?_)
        · skip
          refine k_aload_n o hb dX11_changes_77 rfl 0 rfl ?_
          refine k_aload o hb dX11_changes_78 4 rfl ?_
          refine k_getI (C := RX1) (T := TX1) (N := 7) o hb hts in1 hown rfl (by decide) 4 (by decide) rfl (hts (.fieldLink RX11 133 "FactKeeper$Fact" "number" "I") (by decide +kernel)) (fun _ h9 => h9) dX11_changes_80 h (fun v46 h => ?_)
          refine k_run_v o (fun _ _ q => q) (k_runV (ci := 11) (rc := (RX11, TX11, 12)) o hb B.hml hown hts rfl (by decide) (T_X11_putFound g.l o.hl g.D g.cA h.2) (cwV 1 hts gX11_changes_X11_putFound rfl rfl rfl (by decide +kernel) ⟨yle B.hR1 rfl, yle B.hR2 rfl⟩) h.1 rfl rfl (Nat.le_of_ble_eq_true rfl) dX11_changes_83) (fun x47 h => ?_)
          exact KW.sub [0, 1, 2, 3, 4] rfl (hj40 x47 h)
        · skip
          exact KW.sub [0, 1, 2, 3, 4] rfl (hj40 x44 h)
theorem dX11_found_0 : decode cX11_found 0 = .ok (.iload_n 1, 1) := by decide +kernel
theorem dX11_found_1 : decode cX11_found 1 = .ok (.ifCond .lt 11, 3) := by decide +kernel
theorem dX11_found_4 : decode cX11_found 4 = .ok (.iload_n 1, 1) := by decide +kernel
theorem dX11_found_5 : decode cX11_found 5 = .ok (.aload_n 0, 1) := by decide +kernel
theorem dX11_found_6 : decode cX11_found 6 = .ok (.getfield 250, 3) := by decide +kernel
theorem dX11_found_9 : decode cX11_found 9 = .ok (.if_icmp .lt 14, 3) := by decide +kernel
theorem dX11_found_12 : decode cX11_found 12 = .ok (.new 60, 3) := by decide +kernel
theorem dX11_found_15 : decode cX11_found 15 = .ok (.dup, 1) := by decide +kernel
theorem dX11_found_16 : decode cX11_found 16 = .ok (.ldc_w 267, 3) := by decide +kernel
theorem dX11_found_19 : decode cX11_found 19 = .ok (.invokespecial 64, 3) := by decide +kernel
theorem dX11_found_22 : decode cX11_found 22 = .ok (.athrow, 1) := by decide +kernel
theorem dX11_found_23 : decode cX11_found 23 = .ok (.aload_n 0, 1) := by decide +kernel
theorem dX11_found_24 : decode cX11_found 24 = .ok (.getfield 34, 3) := by decide +kernel
theorem dX11_found_27 : decode cX11_found 27 = .ok (.iload_n 1, 1) := by decide +kernel
theorem dX11_found_28 : decode cX11_found 28 = .ok (.iaload, 1) := by decide +kernel
theorem dX11_found_29 : decode cX11_found 29 = .ok (.ireturn, 1) := by decide +kernel
set_option maxHeartbeats 4000000 in
set_option maxRecDepth 100000 in
theorem T_X11_found (l : Launch) (hl : l.stackTraces = false) (D : va_G) (cA : Nat → ClassId) {l0 : Option Nat} {l1 : Int32} {x : HS} {Q : Int32 → HS → Prop} {X : String → HS → Prop} (h : w_X11_found l0 l1 x Q X) : YI l yX11_found wsX11_found 6 90 D cA [.q l0, .i l1] x Q X := by
  refine YI.of (cc := cX11_found) (maxL := 2) (ret := (some .int)) hl (by decide) rfl rfl (fun g B fr => ?_)
  have o := B.o
  have hb := B.hb
  have hts := B.hts
  have hown : g.s.vm.findClass RX11 = some g.m.cls := B.hown
  have in11 : ∀ w ∈ u_ws RX11 TX11 12, w ∈ wsX11_found := fun w h => (List.mem_cons_of_mem _ (List.mem_append_left _ (List.mem_append_right _ h)))
  unfold w_X11_found at h
  show KW g 2 0 [(0, .q l0), (1, .i l1)] [] x
  refine k_iload_n o hb dX11_found_0 rfl 1 rfl ?_
  refine wJoin_elim (M := fun K => ∀  (x2 : HS), K  x2 → KW g 2 12 [] [] x2) h ?_ (fun j1 hj1 h => ?_)
  · skip
    intro  x2 h
    refine k_throw (E := eIB) o (fun H locs cells slots mc ms ls XC hls hS hc1 hs1 hc2 hs2 hx9 => ?_) h
    obtain ⟨sa, hsa⟩ := o.hZ.2.2.2.2.2.2.1.2.2.2.2.2.2.2.2.2.2.2.2.2.2.1
    exact vx_throwSW (cls := eIB) (names := eSup) (A := g.A) o.hx hb o.hl hown (by decide +kernel) (by decide +kernel) (hts (.classLink RX11 60 "java/lang/IndexOutOfBoundsException") (by decide +kernel)) (hts (.initialized "java/lang/IndexOutOfBoundsException") (by decide +kernel)) hsa (tx_at hts (fun w h => (List.mem_cons_of_mem _ (List.mem_append_right _ h))) (by decide +kernel) o.hZ.2.2.2.1.2.2.2.1 o.hZ.2.2.2.2.2.2.2) (by decide +kernel) o.hZ.1 o.hZ.2.1 hS (hls.trans B.hml.symm) dX11_found_12 dX11_found_15 dX11_found_16 dX11_found_19 dX11_found_22 (fun x h => (o.htb x h).elim) (ylt B.hR1 rfl) (by rw [lq_cats]; exact yle B.hR2 rfl) hc1 hs1 o.hlk (fun t ha h1 h2 => hx9 t ha h1 h2) hS.2.2 hc2 hs2
  · skip
    refine k_if_lt (tgt := 12) o hb dX11_found_1 (by decide) h (fun h => ?_) (fun h => ?_)
    · skip
      exact KW.sub [] rfl (hj1 x h)
    · skip
      refine k_iload_n o hb dX11_found_4 rfl 1 rfl ?_
      refine k_aload_n o hb dX11_found_5 rfl 0 rfl ?_
      refine k_getI (C := RX11) (T := TX11) (N := 12) o hb hts in11 hown rfl (by decide) 10 (by decide) rfl (hts (.fieldLink RX11 250 "FactKeeper" "foundCount" "I") (by decide +kernel)) (fun _ h9 => h9) dX11_found_6 h (fun v3 h => ?_)
      refine k_icmp_lt (tgt := 23) o hb dX11_found_9 (by decide) h (fun h => ?_) (fun h => ?_)
      · skip
        refine k_aload_n o hb dX11_found_23 rfl 0 rfl ?_
        refine k_getF (C := RX11) (T := TX11) (N := 12) o hb hts in11 hown rfl (by decide) 5 (by decide) rfl (hts (.fieldLink RX11 34 "FactKeeper" "found" "[I") (by decide +kernel)) (fun _ h9 => h9) dX11_found_24 h (fun v4 h => ?_)
        refine k_iload_n o hb dX11_found_27 rfl 1 rfl ?_
        refine k_iald o hb dX11_found_28 h (fun v5 h => ?_)
        exact k_iret o hb B.hr fr dX11_found_29 h
      · skip
        exact KW.sub [] rfl (hj1 x h)
theorem dX11_question_0 : decode cX11_question 0 = .ok (.aload_n 0, 1) := by decide +kernel
theorem dX11_question_1 : decode cX11_question 1 = .ok (.getfield 56, 3) := by decide +kernel
theorem dX11_question_4 : decode cX11_question 4 = .ok (.istore_n 2, 1) := by decide +kernel
theorem dX11_question_5 : decode cX11_question 5 = .ok (.aload_n 0, 1) := by decide +kernel
theorem dX11_question_6 : decode cX11_question 6 = .ok (.iconst 0, 1) := by decide +kernel
theorem dX11_question_7 : decode cX11_question 7 = .ok (.putfield 56, 3) := by decide +kernel
theorem dX11_question_10 : decode cX11_question 10 = .ok (.aload_n 0, 1) := by decide +kernel
theorem dX11_question_11 : decode cX11_question 11 = .ok (.getfield 45, 3) := by decide +kernel
theorem dX11_question_14 : decode cX11_question 14 = .ok (.iconst (-1), 1) := by decide +kernel
theorem dX11_question_15 : decode cX11_question 15 = .ok (.putfield 269, 3) := by decide +kernel
theorem dX11_question_18 : decode cX11_question 18 = .ok (.aload_n 0, 1) := by decide +kernel
theorem dX11_question_19 : decode cX11_question 19 = .ok (.iload_n 1, 1) := by decide +kernel
theorem dX11_question_20 : decode cX11_question 20 = .ok (.invokevirtual 236, 3) := by decide +kernel
theorem dX11_question_23 : decode cX11_question 23 = .ok (.aload_n 0, 1) := by decide +kernel
theorem dX11_question_24 : decode cX11_question 24 = .ok (.getfield 45, 3) := by decide +kernel
theorem dX11_question_27 : decode cX11_question 27 = .ok (.aload_n 0, 1) := by decide +kernel
theorem dX11_question_28 : decode cX11_question 28 = .ok (.getfield 9, 3) := by decide +kernel
theorem dX11_question_31 : decode cX11_question 31 = .ok (.iload_n 2, 1) := by decide +kernel
theorem dX11_question_32 : decode cX11_question 32 = .ok (.aload_n 0, 1) := by decide +kernel
theorem dX11_question_33 : decode cX11_question 33 = .ok (.getfield 20, 3) := by decide +kernel
theorem dX11_question_36 : decode cX11_question 36 = .ok (.invokevirtual 271, 3) := by decide +kernel
theorem dX11_question_39 : decode cX11_question 39 = .ok (.aload_n 0, 1) := by decide +kernel
theorem dX11_question_40 : decode cX11_question 40 = .ok (.ldc_w 275, 3) := by decide +kernel
theorem dX11_question_43 : decode cX11_question 43 = .ok (.putfield 151, 3) := by decide +kernel
theorem dX11_question_46 : decode cX11_question 46 = .ok (.aload_n 0, 1) := by decide +kernel
theorem dX11_question_47 : decode cX11_question 47 = .ok (.getfield 52, 3) := by decide +kernel
theorem dX11_question_50 : decode cX11_question 50 = .ok (.aload_n 0, 1) := by decide +kernel
theorem dX11_question_51 : decode cX11_question 51 = .ok (.getfield 45, 3) := by decide +kernel
theorem dX11_question_54 : decode cX11_question 54 = .ok (.aload_n 0, 1) := by decide +kernel
theorem dX11_question_55 : decode cX11_question 55 = .ok (.getfield 20, 3) := by decide +kernel
theorem dX11_question_58 : decode cX11_question 58 = .ok (.iload_n 1, 1) := by decide +kernel
theorem dX11_question_59 : decode cX11_question 59 = .ok (.invokevirtual 244, 3) := by decide +kernel
theorem dX11_question_62 : decode cX11_question 62 = .ok (.invokevirtual 276, 3) := by decide +kernel
theorem dX11_question_65 : decode cX11_question 65 = .ok (.istore_n 3, 1) := by decide +kernel
theorem dX11_question_66 : decode cX11_question 66 = .ok (.aload_n 0, 1) := by decide +kernel
theorem dX11_question_67 : decode cX11_question 67 = .ok (.aload_n 0, 1) := by decide +kernel
theorem dX11_question_68 : decode cX11_question 68 = .ok (.getfield 52, 3) := by decide +kernel
theorem dX11_question_71 : decode cX11_question 71 = .ok (.getfield 280, 3) := by decide +kernel
theorem dX11_question_74 : decode cX11_question 74 = .ok (.putfield 151, 3) := by decide +kernel
theorem dX11_question_77 : decode cX11_question 77 = .ok (.iload_n 3, 1) := by decide +kernel
theorem dX11_question_78 : decode cX11_question 78 = .ok (.ireturn, 1) := by decide +kernel
theorem i9wsX11_question_0 : ∀ w ∈ wsX11_question_r1, w ∈ wsX11_question := fun _ h => (List.mem_cons_of_mem _ (List.mem_append_left _ (List.mem_append_left _ (List.mem_append_left _ (List.mem_append_left _ (List.mem_append_left _ (List.mem_append_left _ (List.mem_append_left _ (List.mem_append_left _ (List.mem_append_left _ (List.mem_append_left _ (List.mem_append_left _ (List.mem_append_left _ (List.mem_append_left _ (List.mem_append_left _ (List.mem_append_left _ h))))))))))))))))
theorem i9wsX11_question_11 : ∀ w ∈ wsX110, w ∈ wsX11_question := fun _ h => (List.mem_cons_of_mem _ (List.mem_append_left _ (List.mem_append_left _ (List.mem_append_left _ (List.mem_append_left _ (List.mem_append_left _ (List.mem_append_left _ (List.mem_append_left _ (List.mem_append_left _ (List.mem_append_left _ (List.mem_append_left _ (List.mem_append_left _ (List.mem_append_left _ (List.mem_append_left _ (List.mem_append_right _ h)))))))))))))))
theorem i9wsX11_question_14 : ∀ w ∈ wsX90, w ∈ wsX11_question := fun _ h => (List.mem_cons_of_mem _ (List.mem_append_left _ (List.mem_append_left _ (List.mem_append_left _ (List.mem_append_left _ (List.mem_append_left _ (List.mem_append_left _ (List.mem_append_left _ (List.mem_append_left _ (List.mem_append_left _ (List.mem_append_left _ (List.mem_append_right _ h))))))))))))
theorem i9wsX11_question_22 : ∀ w ∈ ((vx_atS RX11 340 "java/lang/IllegalArgumentException" ["java/lang/RuntimeException", "java/lang/Exception"]).filter goodWord), w ∈ wsX11_question := fun _ h => (List.mem_cons_of_mem _ (List.mem_append_left _ (List.mem_append_left _ (List.mem_append_right _ h))))
set_option maxRecDepth 20000 in
theorem ggX11_question_X11_requireTime : GoodIn wsX11_question wsX11_requireTime := (gin_c (mem_at i9wsX11_question_0 13 rfl) rfl (goodIn_app (goodIn_app (goodIn_app (gin_c (mem_at i9wsX11_question_0 4 rfl) rfl (gin_c (mem_at i9wsX11_question_0 14 rfl) rfl (gin_c (mem_at i9wsX11_question_0 15 rfl) rfl (gin_c (mem_at i9wsX11_question_0 16 rfl) rfl (gin_c (mem_at i9wsX11_question_0 17 rfl) rfl (gin_c (mem_at i9wsX11_question_0 12 rfl) rfl (gin_c (mem_at i9wsX11_question_0 18 rfl) rfl (gin_c (mem_at i9wsX11_question_0 19 rfl) rfl (gin_c (mem_at i9wsX11_question_0 20 rfl) rfl gin_n))))))))) (goodIn_sub i9wsX11_question_11 g9_13)) (goodIn_sub i9wsX11_question_14 g9_5)) (goodIn_sub i9wsX11_question_22 g9_14)))
set_option maxRecDepth 20000 in
theorem gX11_question_X11_requireTime : GoodIn wsX11_question (wsV RX11 236 RX11 yX11_requireTime wsX11_requireTime) := goodIn_app (gin_c (mem_at i9wsX11_question_0 9 rfl) rfl (gin_c (mem_at i9wsX11_question_0 10 rfl) rfl (gin_c (mem_at i9wsX11_question_0 11 rfl) rfl (gin_c (mem_at i9wsX11_question_0 12 rfl) rfl gin_n)))) ggX11_question_X11_requireTime
theorem i9wsX11_question_1 : ∀ w ∈ wsX11_question_r2, w ∈ wsX11_question := fun _ h => (List.mem_cons_of_mem _ (List.mem_append_left _ (List.mem_append_left _ (List.mem_append_left _ (List.mem_append_left _ (List.mem_append_left _ (List.mem_append_left _ (List.mem_append_left _ (List.mem_append_left _ (List.mem_append_left _ (List.mem_append_left _ (List.mem_append_left _ (List.mem_append_left _ (List.mem_append_left _ (List.mem_append_left _ (List.mem_append_right _ (List.mem_append_left _ h)))))))))))))))))
theorem i9wsX11_question_2 : ∀ w ∈ wsX11_question_r3, w ∈ wsX11_question := fun _ h => (List.mem_cons_of_mem _ (List.mem_append_left _ (List.mem_append_left _ (List.mem_append_left _ (List.mem_append_left _ (List.mem_append_left _ (List.mem_append_left _ (List.mem_append_left _ (List.mem_append_left _ (List.mem_append_left _ (List.mem_append_left _ (List.mem_append_left _ (List.mem_append_left _ (List.mem_append_left _ (List.mem_append_left _ (List.mem_append_right _ (List.mem_append_right _ (List.mem_append_left _ h))))))))))))))))))
theorem i9wsX11_question_3 : ∀ w ∈ wsX11_question_r4, w ∈ wsX11_question := fun _ h => (List.mem_cons_of_mem _ (List.mem_append_left _ (List.mem_append_left _ (List.mem_append_left _ (List.mem_append_left _ (List.mem_append_left _ (List.mem_append_left _ (List.mem_append_left _ (List.mem_append_left _ (List.mem_append_left _ (List.mem_append_left _ (List.mem_append_left _ (List.mem_append_left _ (List.mem_append_left _ (List.mem_append_left _ (List.mem_append_right _ (List.mem_append_right _ (List.mem_append_right _ (List.mem_append_left _ h)))))))))))))))))))
theorem i9wsX11_question_4 : ∀ w ∈ wsX11_question_r5, w ∈ wsX11_question := fun _ h => (List.mem_cons_of_mem _ (List.mem_append_left _ (List.mem_append_left _ (List.mem_append_left _ (List.mem_append_left _ (List.mem_append_left _ (List.mem_append_left _ (List.mem_append_left _ (List.mem_append_left _ (List.mem_append_left _ (List.mem_append_left _ (List.mem_append_left _ (List.mem_append_left _ (List.mem_append_left _ (List.mem_append_left _ (List.mem_append_right _ (List.mem_append_right _ (List.mem_append_right _ (List.mem_append_right _ (List.mem_append_left _ h))))))))))))))))))))
theorem i9wsX11_question_12 : ∀ w ∈ wsX60, w ∈ wsX11_question := fun _ h => (List.mem_cons_of_mem _ (List.mem_append_left _ (List.mem_append_left _ (List.mem_append_left _ (List.mem_append_left _ (List.mem_append_left _ (List.mem_append_left _ (List.mem_append_left _ (List.mem_append_left _ (List.mem_append_left _ (List.mem_append_left _ (List.mem_append_left _ (List.mem_append_left _ (List.mem_append_right _ h))))))))))))))
theorem i9wsX11_question_15 : ∀ w ∈ wsX20, w ∈ wsX11_question := fun _ h => (List.mem_cons_of_mem _ (List.mem_append_left _ (List.mem_append_left _ (List.mem_append_left _ (List.mem_append_left _ (List.mem_append_left _ (List.mem_append_left _ (List.mem_append_left _ (List.mem_append_left _ (List.mem_append_left _ (List.mem_append_right _ h)))))))))))
theorem i9wsX11_question_16 : ∀ w ∈ wsX100, w ∈ wsX11_question := fun _ h => (List.mem_cons_of_mem _ (List.mem_append_left _ (List.mem_append_left _ (List.mem_append_left _ (List.mem_append_left _ (List.mem_append_left _ (List.mem_append_left _ (List.mem_append_left _ (List.mem_append_left _ (List.mem_append_right _ h))))))))))
theorem i9wsX11_question_23 : ∀ w ∈ ((vx_atS RX6 135 "java/lang/UnsupportedOperationException" ["java/lang/RuntimeException", "java/lang/Exception"]).filter goodWord), w ∈ wsX11_question := fun _ h => (List.mem_cons_of_mem _ (List.mem_append_left _ (List.mem_append_right _ h)))
set_option maxRecDepth 20000 in
theorem ggX11_question_X6_readQuestion : GoodIn wsX11_question wsX6_readQuestion := (gin_c (mem_at i9wsX11_question_1 1 rfl) rfl (goodIn_app (goodIn_app (goodIn_app (goodIn_app (goodIn_app (goodIn_app (gin_c (mem_at i9wsX11_question_1 2 rfl) rfl (gin_c (mem_at i9wsX11_question_1 3 rfl) rfl (gin_c (mem_at i9wsX11_question_1 4 rfl) rfl (gin_c (mem_at i9wsX11_question_1 5 rfl) rfl (gin_c (mem_at i9wsX11_question_1 6 rfl) rfl (gin_c (mem_at i9wsX11_question_1 7 rfl) rfl (gin_c (mem_at i9wsX11_question_1 8 rfl) rfl (gin_c (mem_at i9wsX11_question_1 9 rfl) rfl (gin_c (mem_at i9wsX11_question_1 10 rfl) rfl (gin_c (mem_at i9wsX11_question_1 11 rfl) rfl (gin_c (mem_at i9wsX11_question_1 0 rfl) rfl (gin_c (mem_at i9wsX11_question_1 12 rfl) rfl (gin_c (mem_at i9wsX11_question_1 13 rfl) rfl (gin_c (mem_at i9wsX11_question_1 14 rfl) rfl (gin_c (mem_at i9wsX11_question_1 15 rfl) rfl (gin_c (mem_at i9wsX11_question_1 16 rfl) rfl (gin_c (mem_at i9wsX11_question_1 17 rfl) rfl (gin_c (mem_at i9wsX11_question_1 18 rfl) rfl (gin_c (mem_at i9wsX11_question_1 19 rfl) rfl (gin_c (mem_at i9wsX11_question_1 20 rfl) rfl (gin_c (mem_at i9wsX11_question_1 21 rfl) rfl (gin_c (mem_at i9wsX11_question_1 22 rfl) rfl (gin_c (mem_at i9wsX11_question_1 23 rfl) rfl (gin_c (mem_at i9wsX11_question_2 0 rfl) rfl gin_n)))))))))))))))))))))))) (goodIn_app (gin_c (mem_at i9wsX11_question_2 1 rfl) rfl (gin_c (mem_at i9wsX11_question_2 2 rfl) rfl (gin_c (mem_at i9wsX11_question_2 3 rfl) rfl (gin_c (mem_at i9wsX11_question_2 4 rfl) rfl (gin_c (mem_at i9wsX11_question_2 5 rfl) rfl (gin_c (mem_at i9wsX11_question_2 6 rfl) rfl (gin_c (mem_at i9wsX11_question_2 7 rfl) rfl (gin_c (mem_at i9wsX11_question_2 8 rfl) rfl (gin_c (mem_at i9wsX11_question_2 9 rfl) rfl (gin_c (mem_at i9wsX11_question_2 10 rfl) rfl (gin_c (mem_at i9wsX11_question_2 11 rfl) rfl (gin_c (mem_at i9wsX11_question_2 12 rfl) rfl (gin_c (mem_at i9wsX11_question_2 13 rfl) rfl (gin_c (mem_at i9wsX11_question_2 14 rfl) rfl (gin_c (mem_at i9wsX11_question_2 15 rfl) rfl (gin_c (mem_at i9wsX11_question_2 16 rfl) rfl (gin_c (mem_at i9wsX11_question_2 17 rfl) rfl (gin_c (mem_at i9wsX11_question_2 18 rfl) rfl (gin_c (mem_at i9wsX11_question_2 19 rfl) rfl (gin_c (mem_at i9wsX11_question_2 20 rfl) rfl (gin_c (mem_at i9wsX11_question_2 21 rfl) rfl (gin_c (mem_at i9wsX11_question_2 22 rfl) rfl (gin_c (mem_at i9wsX11_question_2 23 rfl) rfl (gin_c (mem_at i9wsX11_question_3 0 rfl) rfl gin_n)))))))))))))))))))))))) (goodIn_app (gin_c (mem_at i9wsX11_question_3 1 rfl) rfl (gin_c (mem_at i9wsX11_question_3 2 rfl) rfl (gin_c (mem_at i9wsX11_question_3 3 rfl) rfl (gin_c (mem_at i9wsX11_question_3 4 rfl) rfl (gin_c (mem_at i9wsX11_question_3 5 rfl) rfl (gin_c (mem_at i9wsX11_question_3 6 rfl) rfl (gin_c (mem_at i9wsX11_question_3 7 rfl) rfl (gin_c (mem_at i9wsX11_question_3 8 rfl) rfl (gin_c (mem_at i9wsX11_question_3 9 rfl) rfl (gin_c (mem_at i9wsX11_question_3 10 rfl) rfl (gin_c (mem_at i9wsX11_question_3 11 rfl) rfl (gin_c (mem_at i9wsX11_question_3 12 rfl) rfl (gin_c (mem_at i9wsX11_question_3 13 rfl) rfl (gin_c (mem_at i9wsX11_question_3 14 rfl) rfl (gin_c (mem_at i9wsX11_question_3 15 rfl) rfl (gin_c (mem_at i9wsX11_question_3 16 rfl) rfl (gin_c (mem_at i9wsX11_question_3 17 rfl) rfl (gin_c (mem_at i9wsX11_question_0 12 rfl) rfl (gin_c (mem_at i9wsX11_question_3 18 rfl) rfl (gin_c (mem_at i9wsX11_question_3 19 rfl) rfl (gin_c (mem_at i9wsX11_question_3 20 rfl) rfl (gin_c (mem_at i9wsX11_question_3 21 rfl) rfl (gin_c (mem_at i9wsX11_question_3 22 rfl) rfl (gin_c (mem_at i9wsX11_question_3 23 rfl) rfl gin_n)))))))))))))))))))))))) (gin_c (mem_at i9wsX11_question_4 0 rfl) rfl (gin_c (mem_at i9wsX11_question_4 1 rfl) rfl (gin_c (mem_at i9wsX11_question_4 2 rfl) rfl (gin_c (mem_at i9wsX11_question_4 3 rfl) rfl (gin_c (mem_at i9wsX11_question_4 4 rfl) rfl (gin_c (mem_at i9wsX11_question_4 5 rfl) rfl (gin_c (mem_at i9wsX11_question_4 6 rfl) rfl (gin_c (mem_at i9wsX11_question_4 7 rfl) rfl (gin_c (mem_at i9wsX11_question_4 8 rfl) rfl (gin_c (mem_at i9wsX11_question_4 9 rfl) rfl (gin_c (mem_at i9wsX11_question_4 10 rfl) rfl (gin_c (mem_at i9wsX11_question_4 11 rfl) rfl (gin_c (mem_at i9wsX11_question_4 12 rfl) rfl (gin_c (mem_at i9wsX11_question_4 13 rfl) rfl (gin_c (mem_at i9wsX11_question_4 14 rfl) rfl (gin_c (mem_at i9wsX11_question_4 15 rfl) rfl gin_n))))))))))))))))))) (goodIn_sub i9wsX11_question_12 g9_7)) (goodIn_sub i9wsX11_question_15 g9_6)) (goodIn_sub i9wsX11_question_16 g9_3)) (goodIn_sub i9wsX11_question_14 g9_5)) (goodIn_sub i9wsX11_question_23 g9_8)))
set_option maxRecDepth 20000 in
theorem gX11_question_X6_readQuestion : GoodIn wsX11_question (wsV RX11 271 RX6 yX6_readQuestion wsX6_readQuestion) := goodIn_app (gin_c (mem_at i9wsX11_question_0 21 rfl) rfl (gin_c (mem_at i9wsX11_question_0 22 rfl) rfl (gin_c (mem_at i9wsX11_question_0 23 rfl) rfl (gin_c (mem_at i9wsX11_question_1 0 rfl) rfl gin_n)))) ggX11_question_X6_readQuestion
set_option maxRecDepth 20000 in
theorem ggX11_question_X9_timeOf : GoodIn wsX11_question wsX9_timeOf := (gin_c (mem_at i9wsX11_question_4 19 rfl) rfl (goodIn_app (gin_c (mem_at i9wsX11_question_4 20 rfl) rfl gin_n) (goodIn_sub i9wsX11_question_14 g9_5)))
set_option maxRecDepth 20000 in
theorem gX11_question_X9_timeOf : GoodIn wsX11_question (wsV RX11 244 RX9 yX9_timeOf wsX9_timeOf) := goodIn_app (gin_c (mem_at i9wsX11_question_4 16 rfl) rfl (gin_c (mem_at i9wsX11_question_4 17 rfl) rfl (gin_c (mem_at i9wsX11_question_4 18 rfl) rfl (gin_c (mem_at i9wsX11_question_2 23 rfl) rfl gin_n)))) ggX11_question_X9_timeOf
theorem i9wsX11_question_5 : ∀ w ∈ wsX11_question_r6, w ∈ wsX11_question := fun _ h => (List.mem_cons_of_mem _ (List.mem_append_left _ (List.mem_append_left _ (List.mem_append_left _ (List.mem_append_left _ (List.mem_append_left _ (List.mem_append_left _ (List.mem_append_left _ (List.mem_append_left _ (List.mem_append_left _ (List.mem_append_left _ (List.mem_append_left _ (List.mem_append_left _ (List.mem_append_left _ (List.mem_append_left _ (List.mem_append_right _ (List.mem_append_right _ (List.mem_append_right _ (List.mem_append_right _ (List.mem_append_right _ (List.mem_append_left _ h)))))))))))))))))))))
theorem i9wsX11_question_6 : ∀ w ∈ wsX11_question_r7, w ∈ wsX11_question := fun _ h => (List.mem_cons_of_mem _ (List.mem_append_left _ (List.mem_append_left _ (List.mem_append_left _ (List.mem_append_left _ (List.mem_append_left _ (List.mem_append_left _ (List.mem_append_left _ (List.mem_append_left _ (List.mem_append_left _ (List.mem_append_left _ (List.mem_append_left _ (List.mem_append_left _ (List.mem_append_left _ (List.mem_append_left _ (List.mem_append_right _ (List.mem_append_right _ (List.mem_append_right _ (List.mem_append_right _ (List.mem_append_right _ (List.mem_append_right _ (List.mem_append_left _ h))))))))))))))))))))))
theorem i9wsX11_question_7 : ∀ w ∈ wsX11_question_r8, w ∈ wsX11_question := fun _ h => (List.mem_cons_of_mem _ (List.mem_append_left _ (List.mem_append_left _ (List.mem_append_left _ (List.mem_append_left _ (List.mem_append_left _ (List.mem_append_left _ (List.mem_append_left _ (List.mem_append_left _ (List.mem_append_left _ (List.mem_append_left _ (List.mem_append_left _ (List.mem_append_left _ (List.mem_append_left _ (List.mem_append_left _ (List.mem_append_right _ (List.mem_append_right _ (List.mem_append_right _ (List.mem_append_right _ (List.mem_append_right _ (List.mem_append_right _ (List.mem_append_right _ (List.mem_append_left _ h)))))))))))))))))))))))
theorem i9wsX11_question_8 : ∀ w ∈ wsX11_question_r9, w ∈ wsX11_question := fun _ h => (List.mem_cons_of_mem _ (List.mem_append_left _ (List.mem_append_left _ (List.mem_append_left _ (List.mem_append_left _ (List.mem_append_left _ (List.mem_append_left _ (List.mem_append_left _ (List.mem_append_left _ (List.mem_append_left _ (List.mem_append_left _ (List.mem_append_left _ (List.mem_append_left _ (List.mem_append_left _ (List.mem_append_left _ (List.mem_append_right _ (List.mem_append_right _ (List.mem_append_right _ (List.mem_append_right _ (List.mem_append_right _ (List.mem_append_right _ (List.mem_append_right _ (List.mem_append_right _ (List.mem_append_left _ h))))))))))))))))))))))))
theorem i9wsX11_question_9 : ∀ w ∈ wsX11_question_r10, w ∈ wsX11_question := fun _ h => (List.mem_cons_of_mem _ (List.mem_append_left _ (List.mem_append_left _ (List.mem_append_left _ (List.mem_append_left _ (List.mem_append_left _ (List.mem_append_left _ (List.mem_append_left _ (List.mem_append_left _ (List.mem_append_left _ (List.mem_append_left _ (List.mem_append_left _ (List.mem_append_left _ (List.mem_append_left _ (List.mem_append_left _ (List.mem_append_right _ (List.mem_append_right _ (List.mem_append_right _ (List.mem_append_right _ (List.mem_append_right _ (List.mem_append_right _ (List.mem_append_right _ (List.mem_append_right _ (List.mem_append_right _ (List.mem_append_left _ h)))))))))))))))))))))))))
theorem i9wsX11_question_10 : ∀ w ∈ wsX11_question_r11, w ∈ wsX11_question := fun _ h => (List.mem_cons_of_mem _ (List.mem_append_left _ (List.mem_append_left _ (List.mem_append_left _ (List.mem_append_left _ (List.mem_append_left _ (List.mem_append_left _ (List.mem_append_left _ (List.mem_append_left _ (List.mem_append_left _ (List.mem_append_left _ (List.mem_append_left _ (List.mem_append_left _ (List.mem_append_left _ (List.mem_append_left _ (List.mem_append_right _ (List.mem_append_right _ (List.mem_append_right _ (List.mem_append_right _ (List.mem_append_right _ (List.mem_append_right _ (List.mem_append_right _ (List.mem_append_right _ (List.mem_append_right _ (List.mem_append_right _ h)))))))))))))))))))))))))
theorem i9wsX11_question_13 : ∀ w ∈ wsX80, w ∈ wsX11_question := fun _ h => (List.mem_cons_of_mem _ (List.mem_append_left _ (List.mem_append_left _ (List.mem_append_left _ (List.mem_append_left _ (List.mem_append_left _ (List.mem_append_left _ (List.mem_append_left _ (List.mem_append_left _ (List.mem_append_left _ (List.mem_append_left _ (List.mem_append_left _ (List.mem_append_right _ h)))))))))))))
theorem i9wsX11_question_17 : ∀ w ∈ wsX70, w ∈ wsX11_question := fun _ h => (List.mem_cons_of_mem _ (List.mem_append_left _ (List.mem_append_left _ (List.mem_append_left _ (List.mem_append_left _ (List.mem_append_left _ (List.mem_append_left _ (List.mem_append_left _ (List.mem_append_right _ h)))))))))
theorem i9wsX11_question_18 : ∀ w ∈ wsX50, w ∈ wsX11_question := fun _ h => (List.mem_cons_of_mem _ (List.mem_append_left _ (List.mem_append_left _ (List.mem_append_left _ (List.mem_append_left _ (List.mem_append_left _ (List.mem_append_left _ (List.mem_append_right _ h))))))))
theorem i9wsX11_question_19 : ∀ w ∈ wsX10, w ∈ wsX11_question := fun _ h => (List.mem_cons_of_mem _ (List.mem_append_left _ (List.mem_append_left _ (List.mem_append_left _ (List.mem_append_left _ (List.mem_append_left _ (List.mem_append_right _ h)))))))
theorem i9wsX11_question_20 : ∀ w ∈ wsX00, w ∈ wsX11_question := fun _ h => (List.mem_cons_of_mem _ (List.mem_append_left _ (List.mem_append_left _ (List.mem_append_left _ (List.mem_append_left _ (List.mem_append_right _ h))))))
theorem i9wsX11_question_21 : ∀ w ∈ wsX40, w ∈ wsX11_question := fun _ h => (List.mem_cons_of_mem _ (List.mem_append_left _ (List.mem_append_left _ (List.mem_append_left _ (List.mem_append_right _ h)))))
theorem i9wsX11_question_24 : ∀ w ∈ ((vx_atS RX8 126 "java/lang/ArithmeticException" ["java/lang/RuntimeException", "java/lang/Exception"]).filter goodWord), w ∈ wsX11_question := fun _ h => (List.mem_cons_of_mem _ (List.mem_append_right _ h))
set_option maxRecDepth 20000 in
theorem ggX11_question_X8_solveAll : GoodIn wsX11_question wsX8_solveAll := (gin_c (mem_at i9wsX11_question_5 1 rfl) rfl (goodIn_app (goodIn_app (goodIn_app (goodIn_app (goodIn_app (goodIn_app (goodIn_app (goodIn_app (goodIn_app (goodIn_app (goodIn_app (gin_c (mem_at i9wsX11_question_5 2 rfl) rfl (gin_c (mem_at i9wsX11_question_5 3 rfl) rfl (gin_c (mem_at i9wsX11_question_5 4 rfl) rfl (gin_c (mem_at i9wsX11_question_5 5 rfl) rfl (gin_c (mem_at i9wsX11_question_5 6 rfl) rfl (gin_c (mem_at i9wsX11_question_5 7 rfl) rfl (gin_c (mem_at i9wsX11_question_5 8 rfl) rfl (gin_c (mem_at i9wsX11_question_5 9 rfl) rfl (gin_c (mem_at i9wsX11_question_5 10 rfl) rfl (gin_c (mem_at i9wsX11_question_5 11 rfl) rfl (gin_c (mem_at i9wsX11_question_5 12 rfl) rfl (gin_c (mem_at i9wsX11_question_5 0 rfl) rfl (gin_c (mem_at i9wsX11_question_5 13 rfl) rfl (gin_c (mem_at i9wsX11_question_5 14 rfl) rfl (gin_c (mem_at i9wsX11_question_5 15 rfl) rfl (gin_c (mem_at i9wsX11_question_5 16 rfl) rfl (gin_c (mem_at i9wsX11_question_5 17 rfl) rfl (gin_c (mem_at i9wsX11_question_5 18 rfl) rfl (gin_c (mem_at i9wsX11_question_5 19 rfl) rfl (gin_c (mem_at i9wsX11_question_5 20 rfl) rfl (gin_c (mem_at i9wsX11_question_5 21 rfl) rfl (gin_c (mem_at i9wsX11_question_5 22 rfl) rfl (gin_c (mem_at i9wsX11_question_5 23 rfl) rfl (gin_c (mem_at i9wsX11_question_6 0 rfl) rfl gin_n)))))))))))))))))))))))) (goodIn_app (gin_c (mem_at i9wsX11_question_6 1 rfl) rfl (gin_c (mem_at i9wsX11_question_6 2 rfl) rfl (gin_c (mem_at i9wsX11_question_6 3 rfl) rfl (gin_c (mem_at i9wsX11_question_6 4 rfl) rfl (gin_c (mem_at i9wsX11_question_6 5 rfl) rfl (gin_c (mem_at i9wsX11_question_6 6 rfl) rfl (gin_c (mem_at i9wsX11_question_6 7 rfl) rfl (gin_c (mem_at i9wsX11_question_6 8 rfl) rfl (gin_c (mem_at i9wsX11_question_6 9 rfl) rfl (gin_c (mem_at i9wsX11_question_6 10 rfl) rfl (gin_c (mem_at i9wsX11_question_6 11 rfl) rfl (gin_c (mem_at i9wsX11_question_6 12 rfl) rfl (gin_c (mem_at i9wsX11_question_6 13 rfl) rfl (gin_c (mem_at i9wsX11_question_6 14 rfl) rfl (gin_c (mem_at i9wsX11_question_6 15 rfl) rfl (gin_c (mem_at i9wsX11_question_6 16 rfl) rfl (gin_c (mem_at i9wsX11_question_6 17 rfl) rfl (gin_c (mem_at i9wsX11_question_6 18 rfl) rfl (gin_c (mem_at i9wsX11_question_6 19 rfl) rfl (gin_c (mem_at i9wsX11_question_6 20 rfl) rfl (gin_c (mem_at i9wsX11_question_3 17 rfl) rfl (gin_c (mem_at i9wsX11_question_0 12 rfl) rfl (gin_c (mem_at i9wsX11_question_3 18 rfl) rfl (gin_c (mem_at i9wsX11_question_6 21 rfl) rfl gin_n)))))))))))))))))))))))) (goodIn_app (gin_c (mem_at i9wsX11_question_6 22 rfl) rfl (gin_c (mem_at i9wsX11_question_6 23 rfl) rfl (gin_c (mem_at i9wsX11_question_7 0 rfl) rfl (gin_c (mem_at i9wsX11_question_7 1 rfl) rfl (gin_c (mem_at i9wsX11_question_7 2 rfl) rfl (gin_c (mem_at i9wsX11_question_7 3 rfl) rfl (gin_c (mem_at i9wsX11_question_7 4 rfl) rfl (gin_c (mem_at i9wsX11_question_7 5 rfl) rfl (gin_c (mem_at i9wsX11_question_7 6 rfl) rfl (gin_c (mem_at i9wsX11_question_7 7 rfl) rfl (gin_c (mem_at i9wsX11_question_7 8 rfl) rfl (gin_c (mem_at i9wsX11_question_7 9 rfl) rfl (gin_c (mem_at i9wsX11_question_7 10 rfl) rfl (gin_c (mem_at i9wsX11_question_7 11 rfl) rfl (gin_c (mem_at i9wsX11_question_7 12 rfl) rfl (gin_c (mem_at i9wsX11_question_7 13 rfl) rfl (gin_c (mem_at i9wsX11_question_7 14 rfl) rfl (gin_c (mem_at i9wsX11_question_7 15 rfl) rfl (gin_c (mem_at i9wsX11_question_7 16 rfl) rfl (gin_c (mem_at i9wsX11_question_7 17 rfl) rfl (gin_c (mem_at i9wsX11_question_7 18 rfl) rfl (gin_c (mem_at i9wsX11_question_7 19 rfl) rfl (gin_c (mem_at i9wsX11_question_7 20 rfl) rfl (gin_c (mem_at i9wsX11_question_7 21 rfl) rfl gin_n)))))))))))))))))))))))) (goodIn_app (gin_c (mem_at i9wsX11_question_7 22 rfl) rfl (gin_c (mem_at i9wsX11_question_7 23 rfl) rfl (gin_c (mem_at i9wsX11_question_8 0 rfl) rfl (gin_c (mem_at i9wsX11_question_8 1 rfl) rfl (gin_c (mem_at i9wsX11_question_8 2 rfl) rfl (gin_c (mem_at i9wsX11_question_8 3 rfl) rfl (gin_c (mem_at i9wsX11_question_8 4 rfl) rfl (gin_c (mem_at i9wsX11_question_8 5 rfl) rfl (gin_c (mem_at i9wsX11_question_8 6 rfl) rfl (gin_c (mem_at i9wsX11_question_8 7 rfl) rfl (gin_c (mem_at i9wsX11_question_8 8 rfl) rfl (gin_c (mem_at i9wsX11_question_8 9 rfl) rfl (gin_c (mem_at i9wsX11_question_8 10 rfl) rfl (gin_c (mem_at i9wsX11_question_8 11 rfl) rfl (gin_c (mem_at i9wsX11_question_8 12 rfl) rfl (gin_c (mem_at i9wsX11_question_8 13 rfl) rfl (gin_c (mem_at i9wsX11_question_8 14 rfl) rfl (gin_c (mem_at i9wsX11_question_8 15 rfl) rfl (gin_c (mem_at i9wsX11_question_8 16 rfl) rfl (gin_c (mem_at i9wsX11_question_8 17 rfl) rfl (gin_c (mem_at i9wsX11_question_8 18 rfl) rfl (gin_c (mem_at i9wsX11_question_8 19 rfl) rfl (gin_c (mem_at i9wsX11_question_8 20 rfl) rfl (gin_c (mem_at i9wsX11_question_8 21 rfl) rfl gin_n)))))))))))))))))))))))) (goodIn_app (gin_c (mem_at i9wsX11_question_8 22 rfl) rfl (gin_c (mem_at i9wsX11_question_8 23 rfl) rfl (gin_c (mem_at i9wsX11_question_9 0 rfl) rfl (gin_c (mem_at i9wsX11_question_9 1 rfl) rfl (gin_c (mem_at i9wsX11_question_9 2 rfl) rfl (gin_c (mem_at i9wsX11_question_9 3 rfl) rfl (gin_c (mem_at i9wsX11_question_9 4 rfl) rfl (gin_c (mem_at i9wsX11_question_9 5 rfl) rfl (gin_c (mem_at i9wsX11_question_9 6 rfl) rfl (gin_c (mem_at i9wsX11_question_9 7 rfl) rfl (gin_c (mem_at i9wsX11_question_9 8 rfl) rfl (gin_c (mem_at i9wsX11_question_9 9 rfl) rfl (gin_c (mem_at i9wsX11_question_9 10 rfl) rfl (gin_c (mem_at i9wsX11_question_9 11 rfl) rfl (gin_c (mem_at i9wsX11_question_9 12 rfl) rfl (gin_c (mem_at i9wsX11_question_9 13 rfl) rfl (gin_c (mem_at i9wsX11_question_9 14 rfl) rfl (gin_c (mem_at i9wsX11_question_9 15 rfl) rfl (gin_c (mem_at i9wsX11_question_9 16 rfl) rfl (gin_c (mem_at i9wsX11_question_9 17 rfl) rfl (gin_c (mem_at i9wsX11_question_9 18 rfl) rfl (gin_c (mem_at i9wsX11_question_9 19 rfl) rfl (gin_c (mem_at i9wsX11_question_9 20 rfl) rfl (gin_c (mem_at i9wsX11_question_9 21 rfl) rfl gin_n)))))))))))))))))))))))) (gin_c (mem_at i9wsX11_question_9 22 rfl) rfl (gin_c (mem_at i9wsX11_question_9 23 rfl) rfl (gin_c (mem_at i9wsX11_question_10 0 rfl) rfl (gin_c (mem_at i9wsX11_question_10 1 rfl) rfl (gin_c (mem_at i9wsX11_question_10 2 rfl) rfl (gin_c (mem_at i9wsX11_question_10 3 rfl) rfl gin_n))))))))))) (goodIn_sub i9wsX11_question_13 g9_11)) (goodIn_sub i9wsX11_question_12 g9_7)) (goodIn_sub i9wsX11_question_17 g9_9)) (goodIn_sub i9wsX11_question_15 g9_6)) (goodIn_sub i9wsX11_question_18 g9_10)) (goodIn_sub i9wsX11_question_16 g9_3)) (goodIn_sub i9wsX11_question_19 g9_0)) (goodIn_sub i9wsX11_question_20 g9_1)) (goodIn_sub i9wsX11_question_21 g9_2)) (goodIn_sub i9wsX11_question_24 g9_12)))
set_option maxRecDepth 20000 in
theorem gX11_question_X8_solveAll : GoodIn wsX11_question (wsV RX11 276 RX8 yX8_solveAll wsX8_solveAll) := goodIn_app (gin_c (mem_at i9wsX11_question_4 21 rfl) rfl (gin_c (mem_at i9wsX11_question_4 22 rfl) rfl (gin_c (mem_at i9wsX11_question_4 23 rfl) rfl (gin_c (mem_at i9wsX11_question_5 0 rfl) rfl gin_n)))) ggX11_question_X8_solveAll
set_option maxHeartbeats 4000000 in
set_option maxRecDepth 100000 in
theorem T_X11_question (l : Launch) (hl : l.stackTraces = false) (D : va_G) (cA : Nat → ClassId) {l0 : Option Nat} {l1 : Int32} {x : HS} {Q : Int32 → HS → Prop} {X : String → HS → Prop} (h : w_X11_question l0 l1 x Q X) : YI l yX11_question wsX11_question 46 1885 D cA [.q l0, .i l1] x Q X := by
  refine YI.of (cc := cX11_question) (maxL := 4) (ret := (some .int)) hl (by decide) rfl rfl (fun g B fr => ?_)
  have o := B.o
  have hb := B.hb
  have hts := B.hts
  have hown : g.s.vm.findClass RX11 = some g.m.cls := B.hown
  have in6 : ∀ w ∈ u_ws RX6 TX6 8, w ∈ wsX11_question := fun w h => (List.mem_cons_of_mem _ (List.mem_append_left _ (List.mem_append_left _ (List.mem_append_left _ (List.mem_append_left _ (List.mem_append_left _ (List.mem_append_left _ (List.mem_append_left _ (List.mem_append_left _ (List.mem_append_left _ (List.mem_append_left _ (List.mem_append_left _ (List.mem_append_left _ (List.mem_append_right _ h))))))))))))))
  have in8 : ∀ w ∈ u_ws RX8 TX8 8, w ∈ wsX11_question := fun w h => (List.mem_cons_of_mem _ (List.mem_append_left _ (List.mem_append_left _ (List.mem_append_left _ (List.mem_append_left _ (List.mem_append_left _ (List.mem_append_left _ (List.mem_append_left _ (List.mem_append_left _ (List.mem_append_left _ (List.mem_append_left _ (List.mem_append_left _ (List.mem_append_right _ h)))))))))))))
  have in11 : ∀ w ∈ u_ws RX11 TX11 12, w ∈ wsX11_question := fun w h => (List.mem_cons_of_mem _ (List.mem_append_left _ (List.mem_append_left _ (List.mem_append_left _ (List.mem_append_left _ (List.mem_append_left _ (List.mem_append_left _ (List.mem_append_left _ (List.mem_append_left _ (List.mem_append_left _ (List.mem_append_left _ (List.mem_append_left _ (List.mem_append_left _ (List.mem_append_left _ (List.mem_append_right _ h)))))))))))))))
  unfold w_X11_question at h
  show KW g 4 0 [(0, .q l0), (1, .i l1)] [] x
  refine k_aload_n o hb dX11_question_0 rfl 0 rfl ?_
  refine k_getI (C := RX11) (T := TX11) (N := 12) o hb hts in11 hown rfl (by decide) 9 (by decide) rfl (hts (.fieldLink RX11 56 "FactKeeper" "tapeLength" "I") (by decide +kernel)) (fun _ h9 => h9) dX11_question_1 h (fun v1 h => ?_)
  refine k_istore_n o hb dX11_question_4 rfl rfl ?_
  refine k_aload_n o hb dX11_question_5 rfl 1 rfl ?_
  refine k_iconst (v := 0) o hb dX11_question_6 (by decide) ?_
  refine k_putI (C := RX11) (T := TX11) (N := 12) (ty := .int) o hb hts in11 tyX11 tyX11_ok nmX11 hown rfl (by decide) 9 (by decide) rfl (hts (.fieldLink RX11 56 "FactKeeper" "tapeLength" "I") (by decide +kernel)) (fun _ h9 => h9) rfl (by decide +kernel) (fun _ => rfl) (fun _ => rfl) dX11_question_7 h (fun x2 h => ?_)
  refine k_aload_n o hb dX11_question_10 rfl 1 rfl ?_
  refine k_getF (C := RX11) (T := TX11) (N := 12) o hb hts in11 hown rfl (by decide) 7 (by decide) rfl (hts (.fieldLink RX11 45 "FactKeeper" "reader" "LFactKeeper$Reader;") (by decide +kernel)) (fun _ h9 => h9) dX11_question_11 h (fun v3 h => ?_)
  refine k_iconst (v := (-1)) o hb dX11_question_14 (by decide) ?_
  refine k_putI (C := RX6) (T := TX6) (N := 8) (ty := .int) o hb hts in6 tyX6 tyX6_ok nmX6 hown rfl (by decide) 3 (by decide) rfl (hts (.fieldLink RX11 269 "FactKeeper$Reader" "place" "I") (by decide +kernel)) (fun _ h9 => h9) rfl (by decide +kernel) (fun _ => rfl) (fun _ => rfl) dX11_question_15 h (fun x4 h => ?_)
  refine k_aload_n o hb dX11_question_18 rfl 1 rfl ?_
  refine k_iload_n o hb dX11_question_19 rfl 2 rfl ?_
  refine k_run_v o (fun _ _ q => q) (k_runV (ci := 11) (rc := (RX11, TX11, 12)) o hb B.hml hown hts rfl (by decide) (T_X11_requireTime g.l o.hl g.D g.cA h.2) (cwV 1 hts gX11_question_X11_requireTime rfl rfl rfl (by decide +kernel) ⟨yle B.hR1 rfl, yle B.hR2 rfl⟩) h.1 rfl rfl (Nat.le_of_ble_eq_true rfl) dX11_question_20) (fun x5 h => ?_)
  refine k_aload_n o hb dX11_question_23 rfl 1 rfl ?_
  refine k_getF (C := RX11) (T := TX11) (N := 12) o hb hts in11 hown rfl (by decide) 7 (by decide) rfl (hts (.fieldLink RX11 45 "FactKeeper" "reader" "LFactKeeper$Reader;") (by decide +kernel)) (fun _ h9 => h9) dX11_question_24 h (fun v7 h => ?_)
  refine k_aload_n o hb dX11_question_27 rfl 1 rfl ?_
  refine k_getF (C := RX11) (T := TX11) (N := 12) o hb hts in11 hown rfl (by decide) 0 (by decide) rfl (hts (.fieldLink RX11 9 "FactKeeper" "tape" "[B") (by decide +kernel)) (fun _ h9 => h9) dX11_question_28 h (fun v8 h => ?_)
  refine k_iload_n o hb dX11_question_31 rfl 0 rfl ?_
  refine k_aload_n o hb dX11_question_32 rfl 1 rfl ?_
  refine k_getF (C := RX11) (T := TX11) (N := 12) o hb hts in11 hown rfl (by decide) 2 (by decide) rfl (hts (.fieldLink RX11 20 "FactKeeper" "store" "LFactKeeper$Store;") (by decide +kernel)) (fun _ h9 => h9) dX11_question_33 h (fun v9 h => ?_)
  refine k_run_v o (fun _ _ q => q) (k_runV (ci := 6) (rc := (RX6, TX6, 8)) o hb B.hml hown hts rfl (by decide) (T_X6_readQuestion g.l o.hl g.D g.cA h.2) (cwV 3 hts gX11_question_X6_readQuestion rfl rfl rfl (by decide +kernel) ⟨yle B.hR1 rfl, yle B.hR2 rfl⟩) h.1 rfl rfl (Nat.le_of_ble_eq_true rfl) dX11_question_36) (fun x10 h => ?_)
  refine k_aload_n o hb dX11_question_39 rfl 1 rfl ?_
  refine k_ldc_w (v := 50001) o hb hown (hts (.constant RX11 275 50001) (by decide +kernel)) dX11_question_40 ?_
  refine k_putI (C := RX11) (T := TX11) (N := 12) (ty := .int) o hb hts in11 tyX11 tyX11_ok nmX11 hown rfl (by decide) 11 (by decide) rfl (hts (.fieldLink RX11 151 "FactKeeper" "lookedAt" "I") (by decide +kernel)) (fun _ h9 => h9) rfl (by decide +kernel) (fun _ => rfl) (fun _ => rfl) dX11_question_43 h (fun x12 h => ?_)
  refine k_aload_n o hb dX11_question_46 rfl 1 rfl ?_
  refine k_getF (C := RX11) (T := TX11) (N := 12) o hb hts in11 hown rfl (by decide) 8 (by decide) rfl (hts (.fieldLink RX11 52 "FactKeeper" "solver" "LFactKeeper$Solver;") (by decide +kernel)) (fun _ h9 => h9) dX11_question_47 h (fun v13 h => ?_)
  refine k_aload_n o hb dX11_question_50 rfl 1 rfl ?_
  refine k_getF (C := RX11) (T := TX11) (N := 12) o hb hts in11 hown rfl (by decide) 7 (by decide) rfl (hts (.fieldLink RX11 45 "FactKeeper" "reader" "LFactKeeper$Reader;") (by decide +kernel)) (fun _ h9 => h9) dX11_question_51 h (fun v14 h => ?_)
  refine k_aload_n o hb dX11_question_54 rfl 1 rfl ?_
  refine k_getF (C := RX11) (T := TX11) (N := 12) o hb hts in11 hown rfl (by decide) 2 (by decide) rfl (hts (.fieldLink RX11 20 "FactKeeper" "store" "LFactKeeper$Store;") (by decide +kernel)) (fun _ h9 => h9) dX11_question_55 h (fun v15 h => ?_)
  refine k_iload_n o hb dX11_question_58 rfl 2 rfl ?_
  refine k_run_i o (fun _ _ q => q) (k_runV (ci := 9) (rc := (RX9, TX9, 8)) o hb B.hml hown hts rfl (by decide) (T_X9_timeOf g.l o.hl g.D g.cA h.2) (cwV 1 hts gX11_question_X9_timeOf rfl rfl rfl (by decide +kernel) ⟨yle B.hR1 rfl, yle B.hR2 rfl⟩) h.1 rfl rfl (Nat.le_of_ble_eq_true rfl) dX11_question_59) (fun v17 x16 h => ?_)
  refine k_run_i o (fun _ _ q => q) (k_runV (ci := 8) (rc := (RX8, TX8, 8)) o hb B.hml hown hts rfl (by decide) (T_X8_solveAll g.l o.hl g.D g.cA h.2) (cwV 2 hts gX11_question_X8_solveAll rfl rfl rfl (by decide +kernel) ⟨yle B.hR1 rfl, yle B.hR2 rfl⟩) h.1 rfl rfl (Nat.le_of_ble_eq_true rfl) dX11_question_62) (fun v19 x18 h => ?_)
  refine k_istore_n o hb dX11_question_65 rfl rfl ?_
  refine k_aload_n o hb dX11_question_66 rfl 2 rfl ?_
  refine k_aload_n o hb dX11_question_67 rfl 2 rfl ?_
  refine k_getF (C := RX11) (T := TX11) (N := 12) o hb hts in11 hown rfl (by decide) 8 (by decide) rfl (hts (.fieldLink RX11 52 "FactKeeper" "solver" "LFactKeeper$Solver;") (by decide +kernel)) (fun _ h9 => h9) dX11_question_68 h (fun v20 h => ?_)
  refine k_getI (C := RX8) (T := TX8) (N := 8) o hb hts in8 hown rfl (by decide) 1 (by decide) rfl (hts (.fieldLink RX11 280 "FactKeeper$Solver" "lookedAt" "I") (by decide +kernel)) (fun _ h9 => h9) dX11_question_71 h (fun v21 h => ?_)
  refine k_putI (C := RX11) (T := TX11) (N := 12) (ty := .int) o hb hts in11 tyX11 tyX11_ok nmX11 hown rfl (by decide) 11 (by decide) rfl (hts (.fieldLink RX11 151 "FactKeeper" "lookedAt" "I") (by decide +kernel)) (fun _ h9 => h9) rfl (by decide +kernel) (fun _ => rfl) (fun _ => rfl) dX11_question_74 h (fun x22 h => ?_)
  refine k_iload_n o hb dX11_question_77 rfl 0 rfl ?_
  exact k_iret o hb B.hr fr dX11_question_78 h
theorem dX11_solution_0 : decode cX11_solution 0 = .ok (.iload_n 2, 1) := by decide +kernel
theorem dX11_solution_1 : decode cX11_solution 1 = .ok (.iconst 0, 1) := by decide +kernel
theorem dX11_solution_2 : decode cX11_solution 2 = .ok (.bipush 7, 2) := by decide +kernel
theorem dX11_solution_4 : decode cX11_solution 4 = .ok (.invokestatic 71, 3) := by decide +kernel
theorem dX11_solution_7 : decode cX11_solution 7 = .ok (.aload_n 0, 1) := by decide +kernel
theorem dX11_solution_8 : decode cX11_solution 8 = .ok (.getfield 52, 3) := by decide +kernel
theorem dX11_solution_11 : decode cX11_solution 11 = .ok (.getfield 281, 3) := by decide +kernel
theorem dX11_solution_14 : decode cX11_solution 14 = .ok (.astore_n 3, 1) := by decide +kernel
theorem dX11_solution_15 : decode cX11_solution 15 = .ok (.iload_n 1, 1) := by decide +kernel
theorem dX11_solution_16 : decode cX11_solution 16 = .ok (.ifCond .lt 22, 3) := by decide +kernel
theorem dX11_solution_19 : decode cX11_solution 19 = .ok (.iload_n 1, 1) := by decide +kernel
theorem dX11_solution_20 : decode cX11_solution 20 = .ok (.aload_n 3, 1) := by decide +kernel
theorem dX11_solution_21 : decode cX11_solution 21 = .ok (.invokevirtual 285, 3) := by decide +kernel
theorem dX11_solution_24 : decode cX11_solution 24 = .ok (.if_icmp .ge 14, 3) := by decide +kernel
theorem dX11_solution_27 : decode cX11_solution 27 = .ok (.aload_n 3, 1) := by decide +kernel
theorem dX11_solution_28 : decode cX11_solution 28 = .ok (.getfield 290, 3) := by decide +kernel
theorem dX11_solution_31 : decode cX11_solution 31 = .ok (.iload_n 2, 1) := by decide +kernel
theorem dX11_solution_32 : decode cX11_solution 32 = .ok (.invokestatic 293, 3) := by decide +kernel
theorem dX11_solution_35 : decode cX11_solution 35 = .ok (.ifCond .ne 14, 3) := by decide +kernel
theorem dX11_solution_38 : decode cX11_solution 38 = .ok (.new 60, 3) := by decide +kernel
theorem dX11_solution_41 : decode cX11_solution 41 = .ok (.dup, 1) := by decide +kernel
theorem dX11_solution_42 : decode cX11_solution 42 = .ok (.ldc_w 267, 3) := by decide +kernel
theorem dX11_solution_45 : decode cX11_solution 45 = .ok (.invokespecial 64, 3) := by decide +kernel
theorem dX11_solution_48 : decode cX11_solution 48 = .ok (.athrow, 1) := by decide +kernel
theorem dX11_solution_49 : decode cX11_solution 49 = .ok (.aload_n 3, 1) := by decide +kernel
theorem dX11_solution_50 : decode cX11_solution 50 = .ok (.getfield 297, 3) := by decide +kernel
theorem dX11_solution_53 : decode cX11_solution 53 = .ok (.iload_n 1, 1) := by decide +kernel
theorem dX11_solution_54 : decode cX11_solution 54 = .ok (.bipush 8, 2) := by decide +kernel
theorem dX11_solution_56 : decode cX11_solution 56 = .ok (.imul, 1) := by decide +kernel
theorem dX11_solution_57 : decode cX11_solution 57 = .ok (.iload_n 2, 1) := by decide +kernel
theorem dX11_solution_58 : decode cX11_solution 58 = .ok (.iadd, 1) := by decide +kernel
theorem dX11_solution_59 : decode cX11_solution 59 = .ok (.iaload, 1) := by decide +kernel
theorem dX11_solution_60 : decode cX11_solution 60 = .ok (.ireturn, 1) := by decide +kernel
theorem i9wsX11_solution_0 : ∀ w ∈ wsX11_solution_r1, w ∈ wsX11_solution := fun _ h => (List.mem_cons_of_mem _ (List.mem_append_left _ (List.mem_append_left _ (List.mem_append_left _ (List.mem_append_left _ (List.mem_append_left _ (List.mem_append_left _ h)))))))
theorem i9wsX11_solution_6 : ∀ w ∈ ((vx_atS RX11 340 "java/lang/IllegalArgumentException" ["java/lang/RuntimeException", "java/lang/Exception"]).filter goodWord), w ∈ wsX11_solution := fun _ h => (List.mem_cons_of_mem _ (List.mem_append_right _ h))
set_option maxRecDepth 20000 in
theorem ggX11_solution_X11_requireRange : GoodIn wsX11_solution wsX11_requireRange := (gin_c (mem_at i9wsX11_solution_0 9 rfl) rfl (goodIn_app (gin_c (mem_at i9wsX11_solution_0 10 rfl) rfl (gin_c (mem_at i9wsX11_solution_0 11 rfl) rfl gin_n)) (goodIn_sub i9wsX11_solution_6 g9_14)))
set_option maxRecDepth 20000 in
theorem gX11_solution_X11_requireRange : GoodIn wsX11_solution (va_wsS RX11 71 yX11_requireRange wsX11_requireRange) := goodIn_app (gin_c (mem_at i9wsX11_solution_0 6 rfl) rfl (gin_c (mem_at i9wsX11_solution_0 7 rfl) rfl (gin_c (mem_at i9wsX11_solution_0 8 rfl) rfl gin_n))) ggX11_solution_X11_requireRange
theorem i9wsX11_solution_4 : ∀ w ∈ wsX70, w ∈ wsX11_solution := fun _ h => (List.mem_cons_of_mem _ (List.mem_append_left _ (List.mem_append_left _ (List.mem_append_right _ h))))
set_option maxRecDepth 20000 in
theorem ggX11_solution_X7_keptCount : GoodIn wsX11_solution wsX7_keptCount := (gin_c (mem_at i9wsX11_solution_0 16 rfl) rfl (goodIn_app (gin_c (mem_at i9wsX11_solution_0 17 rfl) rfl (gin_c (mem_at i9wsX11_solution_0 18 rfl) rfl (gin_c (mem_at i9wsX11_solution_0 19 rfl) rfl (gin_c (mem_at i9wsX11_solution_0 20 rfl) rfl (gin_c (mem_at i9wsX11_solution_0 21 rfl) rfl gin_n))))) (goodIn_sub i9wsX11_solution_4 g9_9)))
set_option maxRecDepth 20000 in
theorem gX11_solution_X7_keptCount : GoodIn wsX11_solution (wsV RX11 285 RX7 yX7_keptCount wsX7_keptCount) := goodIn_app (gin_c (mem_at i9wsX11_solution_0 12 rfl) rfl (gin_c (mem_at i9wsX11_solution_0 13 rfl) rfl (gin_c (mem_at i9wsX11_solution_0 14 rfl) rfl (gin_c (mem_at i9wsX11_solution_0 15 rfl) rfl gin_n)))) ggX11_solution_X7_keptCount
theorem i9wsX11_solution_1 : ∀ w ∈ wsX11_solution_r2, w ∈ wsX11_solution := fun _ h => (List.mem_cons_of_mem _ (List.mem_append_left _ (List.mem_append_left _ (List.mem_append_left _ (List.mem_append_left _ (List.mem_append_left _ (List.mem_append_right _ h)))))))
set_option maxRecDepth 20000 in
theorem ggX11_solution_X11_isIn : GoodIn wsX11_solution wsX11_isIn := (gin_c (mem_at i9wsX11_solution_1 0 rfl) rfl gin_n)
set_option maxRecDepth 20000 in
theorem gX11_solution_X11_isIn : GoodIn wsX11_solution (va_wsS RX11 293 yX11_isIn wsX11_isIn) := goodIn_app (gin_c (mem_at i9wsX11_solution_0 22 rfl) rfl (gin_c (mem_at i9wsX11_solution_0 23 rfl) rfl (gin_c (mem_at i9wsX11_solution_0 8 rfl) rfl gin_n))) ggX11_solution_X11_isIn
set_option maxHeartbeats 4000000 in
set_option maxRecDepth 100000 in
theorem T_X11_solution (l : Launch) (hl : l.stackTraces = false) (D : va_G) (cA : Nat → ClassId) {l0 : Option Nat} {l1 : Int32} {l2 : Int32} {x : HS} {Q : Int32 → HS → Prop} {X : String → HS → Prop} (h : w_X11_solution l0 l1 l2 x Q X) : YI l yX11_solution wsX11_solution 7 112 D cA [.q l0, .i l1, .i l2] x Q X := by
  refine YI.of (cc := cX11_solution) (maxL := 4) (ret := (some .int)) hl (by decide) rfl rfl (fun g B fr => ?_)
  have o := B.o
  have hb := B.hb
  have hts := B.hts
  have hown : g.s.vm.findClass RX11 = some g.m.cls := B.hown
  have in7 : ∀ w ∈ u_ws RX7 TX7 3, w ∈ wsX11_solution := fun w h => (List.mem_cons_of_mem _ (List.mem_append_left _ (List.mem_append_left _ (List.mem_append_right _ h))))
  have in8 : ∀ w ∈ u_ws RX8 TX8 8, w ∈ wsX11_solution := fun w h => (List.mem_cons_of_mem _ (List.mem_append_left _ (List.mem_append_left _ (List.mem_append_left _ (List.mem_append_right _ h)))))
  have in11 : ∀ w ∈ u_ws RX11 TX11 12, w ∈ wsX11_solution := fun w h => (List.mem_cons_of_mem _ (List.mem_append_left _ (List.mem_append_left _ (List.mem_append_left _ (List.mem_append_left _ (List.mem_append_right _ h))))))
  unfold w_X11_solution at h
  show KW g 4 0 [(0, .q l0), (1, .i l1), (2, .i l2)] [] x
  refine k_iload_n o hb dX11_solution_0 rfl 2 rfl ?_
  refine k_iconst (v := 0) o hb dX11_solution_1 (by decide) ?_
  refine k_bipush (v := 7) o hb dX11_solution_2 (by decide) ?_
  refine k_run_v o (fun _ _ q => q) (k_runS o hb B.hml hown hts (T_X11_requireRange g.l o.hl g.D g.cA h) (va_cwS 3 hts gX11_solution_X11_requireRange rfl rfl rfl (by decide +kernel) ⟨yle B.hR1 rfl, yle B.hR2 rfl⟩) rfl rfl (Nat.le_of_ble_eq_true rfl) dX11_solution_4) (fun x1 h => ?_)
  refine k_aload_n o hb dX11_solution_7 rfl 0 rfl ?_
  refine k_getF (C := RX11) (T := TX11) (N := 12) o hb hts in11 hown rfl (by decide) 8 (by decide) rfl (hts (.fieldLink RX11 52 "FactKeeper" "solver" "LFactKeeper$Solver;") (by decide +kernel)) (fun _ h9 => h9) dX11_solution_8 h (fun v3 h => ?_)
  refine k_getF (C := RX8) (T := TX8) (N := 8) o hb hts in8 hown rfl (by decide) 0 (by decide) rfl (hts (.fieldLink RX11 281 "FactKeeper$Solver" "latest" "LFactKeeper$Solutions;") (by decide +kernel)) (fun _ h9 => h9) dX11_solution_11 h (fun v4 h => ?_)
  refine k_astore_n o hb dX11_solution_14 rfl rfl ?_
  refine k_iload_n o hb dX11_solution_15 rfl 2 rfl ?_
  refine wJoin_elim (M := fun K => ∀  (x6 : HS), K  x6 → KW g 4 38 [] [] x6) h ?_ (fun j5 hj5 h => ?_)
  · skip
    intro  x6 h
    refine k_throw (E := eIB) o (fun H locs cells slots mc ms ls XC hls hS hc1 hs1 hc2 hs2 hx9 => ?_) h
    obtain ⟨sa, hsa⟩ := o.hZ.2.2.2.2.2.2.1.2.2.2.2.2.2.2.2.2.2.2.2.2.2.1
    exact vx_throwSW (cls := eIB) (names := eSup) (A := g.A) o.hx hb o.hl hown (by decide +kernel) (by decide +kernel) (hts (.classLink RX11 60 "java/lang/IndexOutOfBoundsException") (by decide +kernel)) (hts (.initialized "java/lang/IndexOutOfBoundsException") (by decide +kernel)) hsa (tx_at hts (fun w h => (List.mem_cons_of_mem _ (List.mem_append_left _ (List.mem_append_right _ h)))) (by decide +kernel) o.hZ.2.2.2.1.2.2.2.1 o.hZ.2.2.2.2.2.2.2) (by decide +kernel) o.hZ.1 o.hZ.2.1 hS (hls.trans B.hml.symm) dX11_solution_38 dX11_solution_41 dX11_solution_42 dX11_solution_45 dX11_solution_48 (fun x h => (o.htb x h).elim) (ylt B.hR1 rfl) (by rw [lq_cats]; exact yle B.hR2 rfl) hc1 hs1 o.hlk (fun t ha h1 h2 => hx9 t ha h1 h2) hS.2.2 hc2 hs2
  · skip
    refine k_if_lt (tgt := 38) o hb dX11_solution_16 (by decide) h (fun h => ?_) (fun h => ?_)
    · skip
      exact KW.sub [] rfl (hj5 x1 h)
    · skip
      refine k_iload_n o hb dX11_solution_19 rfl 2 rfl ?_
      refine k_aload_n o hb dX11_solution_20 rfl 0 rfl ?_
      refine k_run_i o (fun _ _ q => q) (k_runV (ci := 7) (rc := (RX7, TX7, 3)) o hb B.hml hown hts rfl (by decide) (T_X7_keptCount g.l o.hl g.D g.cA h.2) (cwV 0 hts gX11_solution_X7_keptCount rfl rfl rfl (by decide +kernel) ⟨yle B.hR1 rfl, yle B.hR2 rfl⟩) h.1 rfl rfl (Nat.le_of_ble_eq_true rfl) dX11_solution_21) (fun v8 x7 h => ?_)
      refine k_icmp_ge (tgt := 38) o hb dX11_solution_24 (by decide) h (fun h => ?_) (fun h => ?_)
      · skip
        exact KW.sub [] rfl (hj5 x7 h)
      · skip
        refine k_aload_n o hb dX11_solution_27 rfl 0 rfl ?_
        refine k_getI (C := RX7) (T := TX7) (N := 3) o hb hts in7 hown rfl (by decide) 1 (by decide) rfl (hts (.fieldLink RX11 290 "FactKeeper$Solutions" "known" "I") (by decide +kernel)) (fun _ h9 => h9) dX11_solution_28 h (fun v9 h => ?_)
        refine k_iload_n o hb dX11_solution_31 rfl 3 rfl ?_
        refine k_run_i o (fun _ _ q => q) (k_runS o hb B.hml hown hts (T_X11_isIn g.l o.hl g.D g.cA h) (va_cwS 2 hts gX11_solution_X11_isIn rfl rfl rfl (by decide +kernel) ⟨yle B.hR1 rfl, yle B.hR2 rfl⟩) rfl rfl (Nat.le_of_ble_eq_true rfl) dX11_solution_32) (fun v11 x10 h => ?_)
        refine k_if_ne (tgt := 49) o hb dX11_solution_35 (by decide) h (fun h => ?_) (fun h => ?_)
        · skip
          exact KW.sub [] rfl (hj5 x10 h)
        · skip
          refine k_aload_n o hb dX11_solution_49 rfl 0 rfl ?_
          refine k_getF (C := RX7) (T := TX7) (N := 3) o hb hts in7 hown rfl (by decide) 0 (by decide) rfl (hts (.fieldLink RX11 297 "FactKeeper$Solutions" "kept" "[I") (by decide +kernel)) (fun _ h9 => h9) dX11_solution_50 h (fun v12 h => ?_)
          refine k_iload_n o hb dX11_solution_53 rfl 2 rfl ?_
          refine k_bipush (v := 8) o hb dX11_solution_54 (by decide) ?_
          refine k_imul o hb dX11_solution_56 ?_
          refine k_iload_n o hb dX11_solution_57 rfl 3 rfl ?_
          refine k_iadd o hb dX11_solution_58 ?_
          refine k_iald o hb dX11_solution_59 h (fun v13 h => ?_)
          exact k_iret o hb B.hr fr dX11_solution_60 h
theorem dX11_factsThereNow_0 : decode cX11_factsThereNow 0 = .ok (.aload_n 0, 1) := by decide +kernel
theorem dX11_factsThereNow_1 : decode cX11_factsThereNow 1 = .ok (.getfield 20, 3) := by decide +kernel
theorem dX11_factsThereNow_4 : decode cX11_factsThereNow 4 = .ok (.iload_n 1, 1) := by decide +kernel
theorem dX11_factsThereNow_5 : decode cX11_factsThereNow 5 = .ok (.invokevirtual 327, 3) := by decide +kernel
theorem dX11_factsThereNow_8 : decode cX11_factsThereNow 8 = .ok (.astore_n 2, 1) := by decide +kernel
theorem dX11_factsThereNow_9 : decode cX11_factsThereNow 9 = .ok (.aload_n 2, 1) := by decide +kernel
theorem dX11_factsThereNow_10 : decode cX11_factsThereNow 10 = .ok (.ifnonnull 7, 3) := by decide +kernel
theorem dX11_factsThereNow_13 : decode cX11_factsThereNow 13 = .ok (.iconst (-1), 1) := by decide +kernel
theorem dX11_factsThereNow_14 : decode cX11_factsThereNow 14 = .ok (.goto 7, 3) := by decide +kernel
theorem dX11_factsThereNow_17 : decode cX11_factsThereNow 17 = .ok (.aload_n 2, 1) := by decide +kernel
theorem dX11_factsThereNow_18 : decode cX11_factsThereNow 18 = .ok (.invokevirtual 330, 3) := by decide +kernel
theorem dX11_factsThereNow_21 : decode cX11_factsThereNow 21 = .ok (.ireturn, 1) := by decide +kernel
theorem i9wsX11_factsThereNow_0 : ∀ w ∈ ([.fieldLink RX11 20 "FactKeeper" "store" "LFactKeeper$Store;", .methodLink RX11 327 yX9_tableAt, .instanceMethod yX9_tableAt, .selects RX9 yX9_tableAt yX9_tableAt, .initialized RX9, .code yX9_tableAt cX9_tableAt 2 (some (.object "FactKeeper$Table")), .fieldLink RX9 30 "FactKeeper$Store" "tableCount" "I", .fieldLink RX9 11 "FactKeeper$Store" "tables" "[LFactKeeper$Table;", .methodLink RX11 330 yX10_factsThereNow, .instanceMethod yX10_factsThereNow, .selects RX10 yX10_factsThereNow yX10_factsThereNow, .initialized RX10, .code yX10_factsThereNow cX10_factsThereNow 3 (some .int), .fieldLink RX10 14 "FactKeeper$Table" "row" "LFactKeeper$Chain;", .fieldLink RX10 40 "FactKeeper$Chain" "first" "LFactKeeper$Fact;", .fieldLink RX10 52 "FactKeeper$Fact" "behind" "[LFactKeeper$Fact;", .methodLink RX10 61 yX1_isThereNow, .instanceMethod yX1_isThereNow, .selects RX1 yX1_isThereNow yX1_isThereNow, .initialized RX1, .code yX1_isThereNow cX1_isThereNow 1 (some .boolean), .fieldLink RX1 23 "FactKeeper$Fact" "died" "I"] : List Cond), w ∈ wsX11_factsThereNow := fun _ h => (List.mem_cons_of_mem _ (List.mem_append_left _ (List.mem_append_left _ (List.mem_append_left _ (List.mem_append_left _ (List.mem_append_left _ h))))))
theorem i9wsX11_factsThereNow_2 : ∀ w ∈ wsX90, w ∈ wsX11_factsThereNow := fun _ h => (List.mem_cons_of_mem _ (List.mem_append_left _ (List.mem_append_left _ (List.mem_append_left _ (List.mem_append_right _ h)))))
set_option maxRecDepth 20000 in
theorem ggX11_factsThereNow_X9_tableAt : GoodIn wsX11_factsThereNow wsX9_tableAt := (gin_c (mem_at i9wsX11_factsThereNow_0 5 rfl) rfl (goodIn_app (gin_c (mem_at i9wsX11_factsThereNow_0 6 rfl) rfl (gin_c (mem_at i9wsX11_factsThereNow_0 7 rfl) rfl gin_n)) (goodIn_sub i9wsX11_factsThereNow_2 g9_5)))
set_option maxRecDepth 20000 in
theorem gX11_factsThereNow_X9_tableAt : GoodIn wsX11_factsThereNow (wsV RX11 327 RX9 yX9_tableAt wsX9_tableAt) := goodIn_app (gin_c (mem_at i9wsX11_factsThereNow_0 1 rfl) rfl (gin_c (mem_at i9wsX11_factsThereNow_0 2 rfl) rfl (gin_c (mem_at i9wsX11_factsThereNow_0 3 rfl) rfl (gin_c (mem_at i9wsX11_factsThereNow_0 4 rfl) rfl gin_n)))) ggX11_factsThereNow_X9_tableAt
theorem i9wsX11_factsThereNow_3 : ∀ w ∈ wsX100, w ∈ wsX11_factsThereNow := fun _ h => (List.mem_cons_of_mem _ (List.mem_append_left _ (List.mem_append_left _ (List.mem_append_right _ h))))
theorem i9wsX11_factsThereNow_4 : ∀ w ∈ wsX00, w ∈ wsX11_factsThereNow := fun _ h => (List.mem_cons_of_mem _ (List.mem_append_left _ (List.mem_append_right _ h)))
theorem i9wsX11_factsThereNow_5 : ∀ w ∈ wsX10, w ∈ wsX11_factsThereNow := fun _ h => (List.mem_cons_of_mem _ (List.mem_append_right _ h))
set_option maxRecDepth 20000 in
theorem ggX11_factsThereNow_X10_factsThereNow : GoodIn wsX11_factsThereNow wsX10_factsThereNow := (gin_c (mem_at i9wsX11_factsThereNow_0 12 rfl) rfl (goodIn_app (goodIn_app (goodIn_app (gin_c (mem_at i9wsX11_factsThereNow_0 13 rfl) rfl (gin_c (mem_at i9wsX11_factsThereNow_0 14 rfl) rfl (gin_c (mem_at i9wsX11_factsThereNow_0 15 rfl) rfl (gin_c (mem_at i9wsX11_factsThereNow_0 16 rfl) rfl (gin_c (mem_at i9wsX11_factsThereNow_0 17 rfl) rfl (gin_c (mem_at i9wsX11_factsThereNow_0 18 rfl) rfl (gin_c (mem_at i9wsX11_factsThereNow_0 19 rfl) rfl (gin_c (mem_at i9wsX11_factsThereNow_0 20 rfl) rfl (gin_c (mem_at i9wsX11_factsThereNow_0 21 rfl) rfl gin_n))))))))) (goodIn_sub i9wsX11_factsThereNow_3 g9_3)) (goodIn_sub i9wsX11_factsThereNow_4 g9_1)) (goodIn_sub i9wsX11_factsThereNow_5 g9_0)))
set_option maxRecDepth 20000 in
theorem gX11_factsThereNow_X10_factsThereNow : GoodIn wsX11_factsThereNow (wsV RX11 330 RX10 yX10_factsThereNow wsX10_factsThereNow) := goodIn_app (gin_c (mem_at i9wsX11_factsThereNow_0 8 rfl) rfl (gin_c (mem_at i9wsX11_factsThereNow_0 9 rfl) rfl (gin_c (mem_at i9wsX11_factsThereNow_0 10 rfl) rfl (gin_c (mem_at i9wsX11_factsThereNow_0 11 rfl) rfl gin_n)))) ggX11_factsThereNow_X10_factsThereNow
set_option maxHeartbeats 4000000 in
set_option maxRecDepth 100000 in
theorem T_X11_factsThereNow (l : Launch) (hl : l.stackTraces = false) (D : va_G) (cA : Nat → ClassId) {l0 : Option Nat} {l1 : Int32} {x : HS} {Q : Int32 → HS → Prop} {X : String → HS → Prop} (h : w_X11_factsThereNow l0 l1 x Q X) : YI l yX11_factsThereNow wsX11_factsThereNow 2 42 D cA [.q l0, .i l1] x Q X := by
  refine YI.of (cc := cX11_factsThereNow) (maxL := 3) (ret := (some .int)) hl (by decide) rfl rfl (fun g B fr => ?_)
  have o := B.o
  have hb := B.hb
  have hts := B.hts
  have hown : g.s.vm.findClass RX11 = some g.m.cls := B.hown
  have in11 : ∀ w ∈ u_ws RX11 TX11 12, w ∈ wsX11_factsThereNow := fun w h => (List.mem_cons_of_mem _ (List.mem_append_left _ (List.mem_append_left _ (List.mem_append_left _ (List.mem_append_left _ (List.mem_append_right _ h))))))
  unfold w_X11_factsThereNow at h
  show KW g 3 0 [(0, .q l0), (1, .i l1)] [] x
  refine k_aload_n o hb dX11_factsThereNow_0 rfl 0 rfl ?_
  refine k_getF (C := RX11) (T := TX11) (N := 12) o hb hts in11 hown rfl (by decide) 2 (by decide) rfl (hts (.fieldLink RX11 20 "FactKeeper" "store" "LFactKeeper$Store;") (by decide +kernel)) (fun _ h9 => h9) dX11_factsThereNow_1 h (fun v1 h => ?_)
  refine k_iload_n o hb dX11_factsThereNow_4 rfl 1 rfl ?_
  refine k_run_q o (fun _ _ q => q) (k_runV (ci := 9) (rc := (RX9, TX9, 8)) o hb B.hml hown hts rfl (by decide) (T_X9_tableAt g.l o.hl g.D g.cA h.2) (cwV 1 hts gX11_factsThereNow_X9_tableAt rfl rfl rfl (by decide +kernel) ⟨yle B.hR1 rfl, yle B.hR2 rfl⟩) h.1 rfl rfl (Nat.le_of_ble_eq_true rfl) dX11_factsThereNow_5) (fun v3 x2 h => ?_)
  refine k_astore_n o hb dX11_factsThereNow_8 rfl rfl ?_
  refine k_aload_n o hb dX11_factsThereNow_9 rfl 0 rfl ?_
  refine wJoin_elim (M := fun K => ∀ (v6 : Int32) (x5 : HS), K v6 x5 → KW g 3 21 [] [.i v6] x5) h ?_ (fun j4 hj4 h => ?_)
  · skip
    intro v6 x5 h
    exact k_iret o hb B.hr fr dX11_factsThereNow_21 h
  · skip
    refine k_ifnonnull (tgt := 17) o hb dX11_factsThereNow_10 (by decide) h (fun h => ?_) (fun h => ?_)
    · skip
      refine k_iconst (v := (-1)) o hb dX11_factsThereNow_13 (by decide) ?_
      refine k_goto (tgt := 21) o hb dX11_factsThereNow_14 (by decide) ?_
      exact KW.sub [] rfl (hj4 (-1) x2 h)
    · skip
      refine k_aload_n o hb dX11_factsThereNow_17 rfl 0 rfl ?_
      refine k_run_i o (fun _ _ q => q) (k_runV (ci := 10) (rc := (RX10, TX10, 6)) o hb B.hml hown hts rfl (by decide) (T_X10_factsThereNow g.l o.hl g.D g.cA h.2) (cwV 0 hts gX11_factsThereNow_X10_factsThereNow rfl rfl rfl (by decide +kernel) ⟨yle B.hR1 rfl, yle B.hR2 rfl⟩) h.1 rfl rfl (Nat.le_of_ble_eq_true rfl) dX11_factsThereNow_18) (fun v8 x7 h => ?_)
      exact KW.sub [] rfl (hj4 v8 x7 h)
theorem dX11_count_0 : decode cX11_count 0 = .ok (.iload_n 1, 1) := by decide +kernel
theorem dX11_count_1 : decode cX11_count 1 = .ok (.iconst 0, 1) := by decide +kernel
theorem dX11_count_2 : decode cX11_count 2 = .ok (.bipush 21, 2) := by decide +kernel
theorem dX11_count_4 : decode cX11_count 4 = .ok (.invokestatic 71, 3) := by decide +kernel
theorem dX11_count_7 : decode cX11_count 7 = .ok (.iload_n 1, 1) := by decide +kernel
theorem dX11_count_8 : decode cX11_count 8 = .ok (.tableswitch 136 0 9 #[56, 61, 69, 77, 85, 93, 98, 106, 111, 122], 56) := by decide +kernel
theorem dX11_count_64 : decode cX11_count 64 = .ok (.aload_n 0, 1) := by decide +kernel
theorem dX11_count_65 : decode cX11_count 65 = .ok (.getfield 56, 3) := by decide +kernel
theorem dX11_count_68 : decode cX11_count 68 = .ok (.ireturn, 1) := by decide +kernel
theorem dX11_count_69 : decode cX11_count 69 = .ok (.aload_n 0, 1) := by decide +kernel
theorem dX11_count_70 : decode cX11_count 70 = .ok (.getfield 20, 3) := by decide +kernel
theorem dX11_count_73 : decode cX11_count 73 = .ok (.getfield 300, 3) := by decide +kernel
theorem dX11_count_76 : decode cX11_count 76 = .ok (.ireturn, 1) := by decide +kernel
theorem dX11_count_77 : decode cX11_count 77 = .ok (.aload_n 0, 1) := by decide +kernel
theorem dX11_count_78 : decode cX11_count 78 = .ok (.getfield 20, 3) := by decide +kernel
theorem dX11_count_81 : decode cX11_count 81 = .ok (.getfield 303, 3) := by decide +kernel
theorem dX11_count_84 : decode cX11_count 84 = .ok (.ireturn, 1) := by decide +kernel
theorem dX11_count_85 : decode cX11_count 85 = .ok (.aload_n 0, 1) := by decide +kernel
theorem dX11_count_86 : decode cX11_count 86 = .ok (.getfield 20, 3) := by decide +kernel
theorem dX11_count_89 : decode cX11_count 89 = .ok (.getfield 306, 3) := by decide +kernel
theorem dX11_count_92 : decode cX11_count 92 = .ok (.ireturn, 1) := by decide +kernel
theorem dX11_count_93 : decode cX11_count 93 = .ok (.aload_n 0, 1) := by decide +kernel
theorem dX11_count_94 : decode cX11_count 94 = .ok (.getfield 20, 3) := by decide +kernel
theorem dX11_count_97 : decode cX11_count 97 = .ok (.getfield 308, 3) := by decide +kernel
theorem dX11_count_100 : decode cX11_count 100 = .ok (.ireturn, 1) := by decide +kernel
theorem dX11_count_101 : decode cX11_count 101 = .ok (.aload_n 0, 1) := by decide +kernel
theorem dX11_count_102 : decode cX11_count 102 = .ok (.getfield 151, 3) := by decide +kernel
theorem dX11_count_105 : decode cX11_count 105 = .ok (.ireturn, 1) := by decide +kernel
theorem dX11_count_106 : decode cX11_count 106 = .ok (.aload_n 0, 1) := by decide +kernel
theorem dX11_count_107 : decode cX11_count 107 = .ok (.getfield 45, 3) := by decide +kernel
theorem dX11_count_110 : decode cX11_count 110 = .ok (.getfield 269, 3) := by decide +kernel
theorem dX11_count_113 : decode cX11_count 113 = .ok (.ireturn, 1) := by decide +kernel
theorem dX11_count_114 : decode cX11_count 114 = .ok (.aload_n 0, 1) := by decide +kernel
theorem dX11_count_115 : decode cX11_count 115 = .ok (.invokevirtual 239, 3) := by decide +kernel
theorem dX11_count_118 : decode cX11_count 118 = .ok (.ireturn, 1) := by decide +kernel
theorem dX11_count_119 : decode cX11_count 119 = .ok (.aload_n 0, 1) := by decide +kernel
theorem dX11_count_120 : decode cX11_count 120 = .ok (.getfield 20, 3) := by decide +kernel
theorem dX11_count_123 : decode cX11_count 123 = .ok (.getfield 207, 3) := by decide +kernel
theorem dX11_count_126 : decode cX11_count 126 = .ok (.getfield 219, 3) := by decide +kernel
theorem dX11_count_129 : decode cX11_count 129 = .ok (.ireturn, 1) := by decide +kernel
theorem dX11_count_130 : decode cX11_count 130 = .ok (.aload_n 0, 1) := by decide +kernel
theorem dX11_count_131 : decode cX11_count 131 = .ok (.getfield 52, 3) := by decide +kernel
theorem dX11_count_134 : decode cX11_count 134 = .ok (.getfield 281, 3) := by decide +kernel
theorem dX11_count_137 : decode cX11_count 137 = .ok (.getfield 290, 3) := by decide +kernel
theorem dX11_count_140 : decode cX11_count 140 = .ok (.invokestatic 311, 3) := by decide +kernel
theorem dX11_count_143 : decode cX11_count 143 = .ok (.ireturn, 1) := by decide +kernel
theorem dX11_count_144 : decode cX11_count 144 = .ok (.aload_n 0, 1) := by decide +kernel
theorem dX11_count_145 : decode cX11_count 145 = .ok (.iload_n 1, 1) := by decide +kernel
theorem dX11_count_146 : decode cX11_count 146 = .ok (.bipush 10, 2) := by decide +kernel
theorem dX11_count_148 : decode cX11_count 148 = .ok (.isub, 1) := by decide +kernel
theorem dX11_count_149 : decode cX11_count 149 = .ok (.invokevirtual 316, 3) := by decide +kernel
theorem dX11_count_152 : decode cX11_count 152 = .ok (.ireturn, 1) := by decide +kernel
theorem i9wsX11_count_0 : ∀ w ∈ wsX11_count_r1, w ∈ wsX11_count := fun _ h => (List.mem_cons_of_mem _ (List.mem_append_left _ (List.mem_append_left _ (List.mem_append_left _ (List.mem_append_left _ (List.mem_append_left _ (List.mem_append_left _ (List.mem_append_left _ (List.mem_append_left _ (List.mem_append_left _ (List.mem_append_left _ (List.mem_append_left _ h))))))))))))
theorem i9wsX11_count_12 : ∀ w ∈ ((vx_atS RX11 340 "java/lang/IllegalArgumentException" ["java/lang/RuntimeException", "java/lang/Exception"]).filter goodWord), w ∈ wsX11_count := fun _ h => (List.mem_cons_of_mem _ (List.mem_append_right _ h))
set_option maxRecDepth 20000 in
theorem ggX11_count_X11_requireRange : GoodIn wsX11_count wsX11_requireRange := (gin_c (mem_at i9wsX11_count_0 17 rfl) rfl (goodIn_app (gin_c (mem_at i9wsX11_count_0 18 rfl) rfl (gin_c (mem_at i9wsX11_count_0 19 rfl) rfl gin_n)) (goodIn_sub i9wsX11_count_12 g9_14)))
set_option maxRecDepth 20000 in
theorem gX11_count_X11_requireRange : GoodIn wsX11_count (va_wsS RX11 71 yX11_requireRange wsX11_requireRange) := goodIn_app (gin_c (mem_at i9wsX11_count_0 14 rfl) rfl (gin_c (mem_at i9wsX11_count_0 15 rfl) rfl (gin_c (mem_at i9wsX11_count_0 16 rfl) rfl gin_n))) ggX11_count_X11_requireRange
theorem i9wsX11_count_1 : ∀ w ∈ wsX11_count_r2, w ∈ wsX11_count := fun _ h => (List.mem_cons_of_mem _ (List.mem_append_left _ (List.mem_append_left _ (List.mem_append_left _ (List.mem_append_left _ (List.mem_append_left _ (List.mem_append_left _ (List.mem_append_left _ (List.mem_append_left _ (List.mem_append_left _ (List.mem_append_left _ (List.mem_append_right _ (List.mem_append_left _ h)))))))))))))
theorem i9wsX11_count_3 : ∀ w ∈ wsX110, w ∈ wsX11_count := fun _ h => (List.mem_cons_of_mem _ (List.mem_append_left _ (List.mem_append_left _ (List.mem_append_left _ (List.mem_append_left _ (List.mem_append_left _ (List.mem_append_left _ (List.mem_append_left _ (List.mem_append_left _ (List.mem_append_left _ (List.mem_append_right _ h)))))))))))
set_option maxRecDepth 20000 in
theorem ggX11_count_X11_openCursors : GoodIn wsX11_count wsX11_openCursors := (gin_c (mem_at i9wsX11_count_0 23 rfl) rfl (goodIn_app (gin_c (mem_at i9wsX11_count_1 0 rfl) rfl gin_n) (goodIn_sub i9wsX11_count_3 g9_13)))
set_option maxRecDepth 20000 in
theorem gX11_count_X11_openCursors : GoodIn wsX11_count (wsV RX11 239 RX11 yX11_openCursors wsX11_openCursors) := goodIn_app (gin_c (mem_at i9wsX11_count_0 20 rfl) rfl (gin_c (mem_at i9wsX11_count_0 21 rfl) rfl (gin_c (mem_at i9wsX11_count_0 22 rfl) rfl (gin_c (mem_at i9wsX11_count_0 16 rfl) rfl gin_n)))) ggX11_count_X11_openCursors
set_option maxRecDepth 20000 in
theorem ggX11_count_J6_bitCount_0f7a4 : GoodIn wsX11_count wsJ6_bitCount_0f7a4 := (gin_c (mem_at i9wsX11_count_1 4 rfl) rfl (gin_c (mem_at i9wsX11_count_1 5 rfl) rfl (gin_c (mem_at i9wsX11_count_1 6 rfl) rfl (gin_c (mem_at i9wsX11_count_1 7 rfl) rfl gin_n))))
set_option maxRecDepth 20000 in
theorem gX11_count_J6_bitCount_0f7a4 : GoodIn wsX11_count (va_wsS RX11 311 yJ6_bitCount_0f7a4 wsJ6_bitCount_0f7a4) := goodIn_app (gin_c (mem_at i9wsX11_count_1 1 rfl) rfl (gin_c (mem_at i9wsX11_count_1 2 rfl) rfl (gin_c (mem_at i9wsX11_count_1 3 rfl) rfl gin_n))) ggX11_count_J6_bitCount_0f7a4
theorem i9wsX11_count_2 : ∀ w ∈ wsX11_count_r3, w ∈ wsX11_count := fun _ h => (List.mem_cons_of_mem _ (List.mem_append_left _ (List.mem_append_left _ (List.mem_append_left _ (List.mem_append_left _ (List.mem_append_left _ (List.mem_append_left _ (List.mem_append_left _ (List.mem_append_left _ (List.mem_append_left _ (List.mem_append_left _ (List.mem_append_right _ (List.mem_append_right _ h)))))))))))))
theorem i9wsX11_count_4 : ∀ w ∈ wsX90, w ∈ wsX11_count := fun _ h => (List.mem_cons_of_mem _ (List.mem_append_left _ (List.mem_append_left _ (List.mem_append_left _ (List.mem_append_left _ (List.mem_append_left _ (List.mem_append_left _ (List.mem_append_left _ (List.mem_append_left _ (List.mem_append_right _ h))))))))))
theorem i9wsX11_count_9 : ∀ w ∈ wsX100, w ∈ wsX11_count := fun _ h => (List.mem_cons_of_mem _ (List.mem_append_left _ (List.mem_append_left _ (List.mem_append_left _ (List.mem_append_right _ h)))))
theorem i9wsX11_count_10 : ∀ w ∈ wsX00, w ∈ wsX11_count := fun _ h => (List.mem_cons_of_mem _ (List.mem_append_left _ (List.mem_append_left _ (List.mem_append_right _ h))))
theorem i9wsX11_count_11 : ∀ w ∈ wsX10, w ∈ wsX11_count := fun _ h => (List.mem_cons_of_mem _ (List.mem_append_left _ (List.mem_append_right _ h)))
set_option maxRecDepth 20000 in
theorem ggX11_count_X11_factsThereNow : GoodIn wsX11_count wsX11_factsThereNow := (gin_c (mem_at i9wsX11_count_1 11 rfl) rfl (goodIn_app (goodIn_app (goodIn_app (goodIn_app (goodIn_app (gin_c (mem_at i9wsX11_count_0 1 rfl) rfl (gin_c (mem_at i9wsX11_count_1 12 rfl) rfl (gin_c (mem_at i9wsX11_count_1 13 rfl) rfl (gin_c (mem_at i9wsX11_count_1 14 rfl) rfl (gin_c (mem_at i9wsX11_count_1 15 rfl) rfl (gin_c (mem_at i9wsX11_count_1 16 rfl) rfl (gin_c (mem_at i9wsX11_count_1 17 rfl) rfl (gin_c (mem_at i9wsX11_count_1 18 rfl) rfl (gin_c (mem_at i9wsX11_count_1 19 rfl) rfl (gin_c (mem_at i9wsX11_count_1 20 rfl) rfl (gin_c (mem_at i9wsX11_count_1 21 rfl) rfl (gin_c (mem_at i9wsX11_count_1 22 rfl) rfl (gin_c (mem_at i9wsX11_count_1 23 rfl) rfl (gin_c (mem_at i9wsX11_count_2 0 rfl) rfl (gin_c (mem_at i9wsX11_count_2 1 rfl) rfl (gin_c (mem_at i9wsX11_count_2 2 rfl) rfl (gin_c (mem_at i9wsX11_count_2 3 rfl) rfl (gin_c (mem_at i9wsX11_count_2 4 rfl) rfl (gin_c (mem_at i9wsX11_count_2 5 rfl) rfl (gin_c (mem_at i9wsX11_count_2 6 rfl) rfl (gin_c (mem_at i9wsX11_count_2 7 rfl) rfl (gin_c (mem_at i9wsX11_count_2 8 rfl) rfl gin_n)))))))))))))))))))))) (goodIn_sub i9wsX11_count_3 g9_13)) (goodIn_sub i9wsX11_count_4 g9_5)) (goodIn_sub i9wsX11_count_9 g9_3)) (goodIn_sub i9wsX11_count_10 g9_1)) (goodIn_sub i9wsX11_count_11 g9_0)))
set_option maxRecDepth 20000 in
theorem gX11_count_X11_factsThereNow : GoodIn wsX11_count (wsV RX11 316 RX11 yX11_factsThereNow wsX11_factsThereNow) := goodIn_app (gin_c (mem_at i9wsX11_count_1 8 rfl) rfl (gin_c (mem_at i9wsX11_count_1 9 rfl) rfl (gin_c (mem_at i9wsX11_count_1 10 rfl) rfl (gin_c (mem_at i9wsX11_count_0 16 rfl) rfl gin_n)))) ggX11_count_X11_factsThereNow
set_option maxHeartbeats 4000000 in
set_option maxRecDepth 100000 in
theorem T_X11_count (l : Launch) (hl : l.stackTraces = false) (D : va_G) (cA : Nat → ClassId) {l0 : Option Nat} {l1 : Int32} {x : HS} {Q : Int32 → HS → Prop} {X : String → HS → Prop} (h : w_X11_count l0 l1 x Q X) : YI l yX11_count wsX11_count 7 112 D cA [.q l0, .i l1] x Q X := by
  refine YI.of (cc := cX11_count) (maxL := 2) (ret := (some .int)) hl (by decide) rfl rfl (fun g B fr => ?_)
  have o := B.o
  have hb := B.hb
  have hts := B.hts
  have hown : g.s.vm.findClass RX11 = some g.m.cls := B.hown
  have in3 : ∀ w ∈ u_ws RX3 TX3 5, w ∈ wsX11_count := fun w h => (List.mem_cons_of_mem _ (List.mem_append_left _ (List.mem_append_left _ (List.mem_append_left _ (List.mem_append_left _ (List.mem_append_left _ (List.mem_append_left _ (List.mem_append_right _ h))))))))
  have in6 : ∀ w ∈ u_ws RX6 TX6 8, w ∈ wsX11_count := fun w h => (List.mem_cons_of_mem _ (List.mem_append_left _ (List.mem_append_left _ (List.mem_append_left _ (List.mem_append_left _ (List.mem_append_left _ (List.mem_append_left _ (List.mem_append_left _ (List.mem_append_right _ h)))))))))
  have in7 : ∀ w ∈ u_ws RX7 TX7 3, w ∈ wsX11_count := fun w h => (List.mem_cons_of_mem _ (List.mem_append_left _ (List.mem_append_left _ (List.mem_append_left _ (List.mem_append_left _ (List.mem_append_right _ h))))))
  have in8 : ∀ w ∈ u_ws RX8 TX8 8, w ∈ wsX11_count := fun w h => (List.mem_cons_of_mem _ (List.mem_append_left _ (List.mem_append_left _ (List.mem_append_left _ (List.mem_append_left _ (List.mem_append_left _ (List.mem_append_right _ h)))))))
  have in9 : ∀ w ∈ u_ws RX9 TX9 8, w ∈ wsX11_count := fun w h => (List.mem_cons_of_mem _ (List.mem_append_left _ (List.mem_append_left _ (List.mem_append_left _ (List.mem_append_left _ (List.mem_append_left _ (List.mem_append_left _ (List.mem_append_left _ (List.mem_append_left _ (List.mem_append_right _ h))))))))))
  have in11 : ∀ w ∈ u_ws RX11 TX11 12, w ∈ wsX11_count := fun w h => (List.mem_cons_of_mem _ (List.mem_append_left _ (List.mem_append_left _ (List.mem_append_left _ (List.mem_append_left _ (List.mem_append_left _ (List.mem_append_left _ (List.mem_append_left _ (List.mem_append_left _ (List.mem_append_left _ (List.mem_append_right _ h)))))))))))
  unfold w_X11_count at h
  show KW g 2 0 [(0, .q l0), (1, .i l1)] [] x
  refine k_iload_n o hb dX11_count_0 rfl 1 rfl ?_
  refine k_iconst (v := 0) o hb dX11_count_1 (by decide) ?_
  refine k_bipush (v := 21) o hb dX11_count_2 (by decide) ?_
  refine k_run_v o (fun _ _ q => q) (k_runS o hb B.hml hown hts (T_X11_requireRange g.l o.hl g.D g.cA h) (va_cwS 3 hts gX11_count_X11_requireRange rfl rfl rfl (by decide +kernel) ⟨yle B.hR1 rfl, yle B.hR2 rfl⟩) rfl rfl (Nat.le_of_ble_eq_true rfl) dX11_count_4) (fun x1 h => ?_)
  refine k_iload_n o hb dX11_count_7 rfl 1 rfl ?_
  rcases Decidable.em (l1 = 0) with c0 | c0
  · skip
    have h := h.1 c0
    refine k_tableIn (w := 0) (off := 56) (tgt := 64) o hb dX11_count_8 c0 (by decide) (by decide) (by decide) (by decide) ?_
    refine k_aload_n o hb dX11_count_64 rfl 0 rfl ?_
    refine k_getI (C := RX11) (T := TX11) (N := 12) o hb hts in11 hown rfl (by decide) 9 (by decide) rfl (hts (.fieldLink RX11 56 "FactKeeper" "tapeLength" "I") (by decide +kernel)) (fun _ h9 => h9) dX11_count_65 h (fun v3 h => ?_)
    exact k_iret o hb B.hr fr dX11_count_68 h
  · skip
    have h := h.2 c0
    rcases Decidable.em (l1 = 1) with c1 | c1
    · skip
      have h := h.1 c1
      refine k_tableIn (w := 1) (off := 61) (tgt := 69) o hb dX11_count_8 c1 (by decide) (by decide) (by decide) (by decide) ?_
      refine k_aload_n o hb dX11_count_69 rfl 0 rfl ?_
      refine k_getF (C := RX11) (T := TX11) (N := 12) o hb hts in11 hown rfl (by decide) 2 (by decide) rfl (hts (.fieldLink RX11 20 "FactKeeper" "store" "LFactKeeper$Store;") (by decide +kernel)) (fun _ h9 => h9) dX11_count_70 h (fun v4 h => ?_)
      refine k_getI (C := RX9) (T := TX9) (N := 8) o hb hts in9 hown rfl (by decide) 3 (by decide) rfl (hts (.fieldLink RX11 300 "FactKeeper$Store" "tableCount" "I") (by decide +kernel)) (fun _ h9 => h9) dX11_count_73 h (fun v5 h => ?_)
      exact k_iret o hb B.hr fr dX11_count_76 h
    · skip
      have h := h.2 c1
      rcases Decidable.em (l1 = 2) with c2 | c2
      · skip
        have h := h.1 c2
        refine k_tableIn (w := 2) (off := 69) (tgt := 77) o hb dX11_count_8 c2 (by decide) (by decide) (by decide) (by decide) ?_
        refine k_aload_n o hb dX11_count_77 rfl 0 rfl ?_
        refine k_getF (C := RX11) (T := TX11) (N := 12) o hb hts in11 hown rfl (by decide) 2 (by decide) rfl (hts (.fieldLink RX11 20 "FactKeeper" "store" "LFactKeeper$Store;") (by decide +kernel)) (fun _ h9 => h9) dX11_count_78 h (fun v6 h => ?_)
        refine k_getI (C := RX9) (T := TX9) (N := 8) o hb hts in9 hown rfl (by decide) 6 (by decide) rfl (hts (.fieldLink RX11 303 "FactKeeper$Store" "time" "I") (by decide +kernel)) (fun _ h9 => h9) dX11_count_81 h (fun v7 h => ?_)
        exact k_iret o hb B.hr fr dX11_count_84 h
      · skip
        have h := h.2 c2
        rcases Decidable.em (l1 = 3) with c3 | c3
        · skip
          have h := h.1 c3
          refine k_tableIn (w := 3) (off := 77) (tgt := 85) o hb dX11_count_8 c3 (by decide) (by decide) (by decide) (by decide) ?_
          refine k_aload_n o hb dX11_count_85 rfl 0 rfl ?_
          refine k_getF (C := RX11) (T := TX11) (N := 12) o hb hts in11 hown rfl (by decide) 2 (by decide) rfl (hts (.fieldLink RX11 20 "FactKeeper" "store" "LFactKeeper$Store;") (by decide +kernel)) (fun _ h9 => h9) dX11_count_86 h (fun v8 h => ?_)
          refine k_getI (C := RX9) (T := TX9) (N := 8) o hb hts in9 hown rfl (by decide) 4 (by decide) rfl (hts (.fieldLink RX11 306 "FactKeeper$Store" "keptCount" "I") (by decide +kernel)) (fun _ h9 => h9) dX11_count_89 h (fun v9 h => ?_)
          exact k_iret o hb B.hr fr dX11_count_92 h
        · skip
          have h := h.2 c3
          rcases Decidable.em (l1 = 4) with c4 | c4
          · skip
            have h := h.1 c4
            refine k_tableIn (w := 4) (off := 85) (tgt := 93) o hb dX11_count_8 c4 (by decide) (by decide) (by decide) (by decide) ?_
            refine k_aload_n o hb dX11_count_93 rfl 0 rfl ?_
            refine k_getF (C := RX11) (T := TX11) (N := 12) o hb hts in11 hown rfl (by decide) 2 (by decide) rfl (hts (.fieldLink RX11 20 "FactKeeper" "store" "LFactKeeper$Store;") (by decide +kernel)) (fun _ h9 => h9) dX11_count_94 h (fun v10 h => ?_)
            refine k_getI (C := RX9) (T := TX9) (N := 8) o hb hts in9 hown rfl (by decide) 7 (by decide) rfl (hts (.fieldLink RX11 308 "FactKeeper$Store" "horizon" "I") (by decide +kernel)) (fun _ h9 => h9) dX11_count_97 h (fun v11 h => ?_)
            exact k_iret o hb B.hr fr dX11_count_100 h
          · skip
            have h := h.2 c4
            rcases Decidable.em (l1 = 5) with c5 | c5
            · skip
              have h := h.1 c5
              refine k_tableIn (w := 5) (off := 93) (tgt := 101) o hb dX11_count_8 c5 (by decide) (by decide) (by decide) (by decide) ?_
              refine k_aload_n o hb dX11_count_101 rfl 0 rfl ?_
              refine k_getI (C := RX11) (T := TX11) (N := 12) o hb hts in11 hown rfl (by decide) 11 (by decide) rfl (hts (.fieldLink RX11 151 "FactKeeper" "lookedAt" "I") (by decide +kernel)) (fun _ h9 => h9) dX11_count_102 h (fun v12 h => ?_)
              exact k_iret o hb B.hr fr dX11_count_105 h
            · skip
              have h := h.2 c5
              rcases Decidable.em (l1 = 6) with c6 | c6
              · skip
                have h := h.1 c6
                refine k_tableIn (w := 6) (off := 98) (tgt := 106) o hb dX11_count_8 c6 (by decide) (by decide) (by decide) (by decide) ?_
                refine k_aload_n o hb dX11_count_106 rfl 0 rfl ?_
                refine k_getF (C := RX11) (T := TX11) (N := 12) o hb hts in11 hown rfl (by decide) 7 (by decide) rfl (hts (.fieldLink RX11 45 "FactKeeper" "reader" "LFactKeeper$Reader;") (by decide +kernel)) (fun _ h9 => h9) dX11_count_107 h (fun v13 h => ?_)
                refine k_getI (C := RX6) (T := TX6) (N := 8) o hb hts in6 hown rfl (by decide) 3 (by decide) rfl (hts (.fieldLink RX11 269 "FactKeeper$Reader" "place" "I") (by decide +kernel)) (fun _ h9 => h9) dX11_count_110 h (fun v14 h => ?_)
                exact k_iret o hb B.hr fr dX11_count_113 h
              · skip
                have h := h.2 c6
                rcases Decidable.em (l1 = 7) with c7 | c7
                · skip
                  have h := h.1 c7
                  refine k_tableIn (w := 7) (off := 106) (tgt := 114) o hb dX11_count_8 c7 (by decide) (by decide) (by decide) (by decide) ?_
                  refine k_aload_n o hb dX11_count_114 rfl 0 rfl ?_
                  refine k_run_i o (fun _ _ q => q) (k_runV (ci := 11) (rc := (RX11, TX11, 12)) o hb B.hml hown hts rfl (by decide) (T_X11_openCursors g.l o.hl g.D g.cA h.2) (cwV 0 hts gX11_count_X11_openCursors rfl rfl rfl (by decide +kernel) ⟨yle B.hR1 rfl, yle B.hR2 rfl⟩) h.1 rfl rfl (Nat.le_of_ble_eq_true rfl) dX11_count_115) (fun v16 x15 h => ?_)
                  exact k_iret o hb B.hr fr dX11_count_118 h
                · skip
                  have h := h.2 c7
                  rcases Decidable.em (l1 = 8) with c8 | c8
                  · skip
                    have h := h.1 c8
                    refine k_tableIn (w := 8) (off := 111) (tgt := 119) o hb dX11_count_8 c8 (by decide) (by decide) (by decide) (by decide) ?_
                    refine k_aload_n o hb dX11_count_119 rfl 0 rfl ?_
                    refine k_getF (C := RX11) (T := TX11) (N := 12) o hb hts in11 hown rfl (by decide) 2 (by decide) rfl (hts (.fieldLink RX11 20 "FactKeeper" "store" "LFactKeeper$Store;") (by decide +kernel)) (fun _ h9 => h9) dX11_count_120 h (fun v17 h => ?_)
                    refine k_getF (C := RX9) (T := TX9) (N := 8) o hb hts in9 hown rfl (by decide) 2 (by decide) rfl (hts (.fieldLink RX11 207 "FactKeeper$Store" "history" "LFactKeeper$History;") (by decide +kernel)) (fun _ h9 => h9) dX11_count_123 h (fun v18 h => ?_)
                    refine k_getI (C := RX3) (T := TX3) (N := 5) o hb hts in3 hown rfl (by decide) 4 (by decide) rfl (hts (.fieldLink RX11 219 "FactKeeper$History" "markCount" "I") (by decide +kernel)) (fun _ h9 => h9) dX11_count_126 h (fun v19 h => ?_)
                    exact k_iret o hb B.hr fr dX11_count_129 h
                  · skip
                    have h := h.2 c8
                    rcases Decidable.em (l1 = 9) with c9 | c9
                    · skip
                      have h := h.1 c9
                      refine k_tableIn (w := 9) (off := 122) (tgt := 130) o hb dX11_count_8 c9 (by decide) (by decide) (by decide) (by decide) ?_
                      refine k_aload_n o hb dX11_count_130 rfl 0 rfl ?_
                      refine k_getF (C := RX11) (T := TX11) (N := 12) o hb hts in11 hown rfl (by decide) 8 (by decide) rfl (hts (.fieldLink RX11 52 "FactKeeper" "solver" "LFactKeeper$Solver;") (by decide +kernel)) (fun _ h9 => h9) dX11_count_131 h (fun v20 h => ?_)
                      refine k_getF (C := RX8) (T := TX8) (N := 8) o hb hts in8 hown rfl (by decide) 0 (by decide) rfl (hts (.fieldLink RX11 281 "FactKeeper$Solver" "latest" "LFactKeeper$Solutions;") (by decide +kernel)) (fun _ h9 => h9) dX11_count_134 h (fun v21 h => ?_)
                      refine k_getI (C := RX7) (T := TX7) (N := 3) o hb hts in7 hown rfl (by decide) 1 (by decide) rfl (hts (.fieldLink RX11 290 "FactKeeper$Solutions" "known" "I") (by decide +kernel)) (fun _ h9 => h9) dX11_count_137 h (fun v22 h => ?_)
                      refine k_run_i o (fun _ _ q => q) (k_runS o hb B.hml hown hts (T_J6_bitCount_0f7a4 g.l o.hl g.D g.cA h) (va_cwS 1 hts gX11_count_J6_bitCount_0f7a4 rfl rfl rfl (by decide +kernel) ⟨yle B.hR1 rfl, yle B.hR2 rfl⟩) rfl rfl (Nat.le_of_ble_eq_true rfl) dX11_count_140) (fun v24 x23 h => ?_)
                      exact k_iret o hb B.hr fr dX11_count_143 h
                    · skip
                      have h := h.2 c9
                      refine k_tableOut (tgt := 144) o hb dX11_count_8 (by have e0 := lv_neT (a := 0) c0 (by decide); have e1 := lv_neT (a := 1) c1 (by decide); have e2 := lv_neT (a := 2) c2 (by decide); have e3 := lv_neT (a := 3) c3 (by decide); have e4 := lv_neT (a := 4) c4 (by decide); have e5 := lv_neT (a := 5) c5 (by decide); have e6 := lv_neT (a := 6) c6 (by decide); have e7 := lv_neT (a := 7) c7 (by decide); have e8 := lv_neT (a := 8) c8 (by decide); have e9 := lv_neT (a := 9) c9 (by decide); omega) (by decide) ?_
                      refine k_aload_n o hb dX11_count_144 rfl 0 rfl ?_
                      refine k_iload_n o hb dX11_count_145 rfl 1 rfl ?_
                      refine k_bipush (v := 10) o hb dX11_count_146 (by decide) ?_
                      refine k_isub o hb dX11_count_148 ?_
                      refine k_run_i o (fun _ _ q => q) (k_runV (ci := 11) (rc := (RX11, TX11, 12)) o hb B.hml hown hts rfl (by decide) (T_X11_factsThereNow g.l o.hl g.D g.cA h.2) (cwV 1 hts gX11_count_X11_factsThereNow rfl rfl rfl (by decide +kernel) ⟨yle B.hR1 rfl, yle B.hR2 rfl⟩) h.1 rfl rfl (Nat.le_of_ble_eq_true rfl) dX11_count_149) (fun v26 x25 h => ?_)
                      exact k_iret o hb B.hr fr dX11_count_152 h
