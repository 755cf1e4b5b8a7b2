/-! contracts out of the words (chain-fact), laid by wip/p4/y/gen5.py -/
set_option linter.unusedVariables false
theorem dX0_init_0 : decode cX0_init 0 = .ok (.aload_n 0, 1) := by decide +kernel
theorem dX0_init_1 : decode cX0_init 1 = .ok (.invokespecial 1, 3) := by decide +kernel
theorem dX0_init_4 : decode cX0_init 4 = .ok (.aload_n 0, 1) := by decide +kernel
theorem dX0_init_5 : decode cX0_init 5 = .ok (.iload_n 1, 1) := by decide +kernel
theorem dX0_init_6 : decode cX0_init 6 = .ok (.putfield 7, 3) := by decide +kernel
theorem dX0_init_9 : decode cX0_init 9 = .ok (.aload_n 0, 1) := by decide +kernel
theorem dX0_init_10 : decode cX0_init 10 = .ok (.iload_n 2, 1) := by decide +kernel
theorem dX0_init_11 : decode cX0_init 11 = .ok (.putfield 13, 3) := by decide +kernel
theorem dX0_init_14 : decode cX0_init 14 = .ok (.aload_n 0, 1) := by decide +kernel
theorem dX0_init_15 : decode cX0_init 15 = .ok (.aload_n 3, 1) := by decide +kernel
theorem dX0_init_16 : decode cX0_init 16 = .ok (.putfield 16, 3) := by decide +kernel
theorem dX0_init_19 : decode cX0_init 19 = .ok (.return_, 1) := by decide +kernel
set_option maxHeartbeats 4000000 in
set_option maxRecDepth 100000 in
theorem T_X0_init (l : Launch) (hl : l.stackTraces = false) (D : va_G) (cA : Nat → ClassId) {l0 : Option Nat} {l1 : Int32} {l2 : Int32} {l3 : Option Nat} {x : HS} {Q : HS → Prop} {X : String → HS → Prop} (h : w_X0_init l0 l1 l2 l3 x Q X) : YV l yX0_init wsX0_init 1 12 D cA [.q l0, .i l1, .i l2, .q l3] x Q X := by
  refine YV.of (cc := cX0_init) (maxL := 4) (ret := none) hl (by decide) rfl rfl (fun g B fr => ?_)
  have o := B.o
  have hb := B.hb
  have hts := B.hts
  have hown : g.s.vm.findClass RX0 = some g.m.cls := B.hown
  have in0 : ∀ w ∈ u_ws RX0 TX0 5, w ∈ wsX0_init := fun w h => (List.mem_cons_of_mem _ (List.mem_append_right _ h))
  unfold w_X0_init at h
  show KW g 4 0 [(0, .q l0), (1, .i l1), (2, .i l2), (3, .q l3)] [] x
  refine k_aload_n o hb dX0_init_0 rfl 0 rfl ?_
  refine k_objInit o hb B.hml hown (hts (.methodLink RX0 1 objectInit) (by decide +kernel)) (hts (.instanceMethod objectInit) (by decide +kernel)) (hts (.code objectInit ⟨#[0xb1]⟩ 1 none) (by decide +kernel)) (yle B.hR1 rfl) (yle B.hR2 rfl) dX0_init_1 h.1 ?_
  have h := h.2
  refine k_aload_n o hb dX0_init_4 rfl 0 rfl ?_
  refine k_iload_n o hb dX0_init_5 rfl 1 rfl ?_
  refine k_putIF (C := RX0) (T := TX0) (N := 5) (ty := .int) o hb hts in0 tyX0 tyX0_ok nmX0 hown rfl (by decide) 0 (by decide) rfl (hts (.fieldLink RX0 7 "FactKeeper$Chain" "lane" "I") (by decide +kernel)) (fun _ h9 => h9) rfl B.hnm rfl (by decide +kernel) (fun _ => rfl) (fun _ => rfl) dX0_init_6 h (fun x1 h => ?_)
  refine k_aload_n o hb dX0_init_9 rfl 0 rfl ?_
  refine k_iload_n o hb dX0_init_10 rfl 2 rfl ?_
  refine k_putIF (C := RX0) (T := TX0) (N := 5) (ty := .int) o hb hts in0 tyX0 tyX0_ok nmX0 hown rfl (by decide) 1 (by decide) rfl (hts (.fieldLink RX0 13 "FactKeeper$Chain" "shared" "I") (by decide +kernel)) (fun _ h9 => h9) rfl B.hnm rfl (by decide +kernel) (fun _ => rfl) (fun _ => rfl) dX0_init_11 h (fun x2 h => ?_)
  refine k_aload_n o hb dX0_init_14 rfl 0 rfl ?_
  refine k_aload_n o hb dX0_init_15 rfl 3 rfl ?_
  refine k_putFF (C := RX0) (T := TX0) (N := 5) (ty := (tyX0 2)) o hb hts in0 tyX0 tyX0_ok nmX0 hown rfl (by decide) 2 (by decide) rfl (hts (.fieldLink RX0 16 "FactKeeper$Chain" "sibling" "LFactKeeper$Chain;") (by decide +kernel)) (fun _ h9 => h9) rfl B.hnm rfl (by decide +kernel) (fun r => by cases r <;> rfl) (fun r => by cases r <;> rfl) dX0_init_16 h (fun x3 h => ?_)
  exact k_vret o hb B.hr fr dX0_init_19 h
theorem dX0_putAhead_0 : decode cX0_putAhead 0 = .ok (.aload_n 1, 1) := by decide +kernel
theorem dX0_putAhead_1 : decode cX0_putAhead 1 = .ok (.getfield 20, 3) := by decide +kernel
theorem dX0_putAhead_4 : decode cX0_putAhead 4 = .ok (.aload_n 0, 1) := by decide +kernel
theorem dX0_putAhead_5 : decode cX0_putAhead 5 = .ok (.getfield 7, 3) := by decide +kernel
theorem dX0_putAhead_8 : decode cX0_putAhead 8 = .ok (.aload_n 0, 1) := by decide +kernel
theorem dX0_putAhead_9 : decode cX0_putAhead 9 = .ok (.getfield 26, 3) := by decide +kernel
theorem dX0_putAhead_12 : decode cX0_putAhead 12 = .ok (.aastore, 1) := by decide +kernel
theorem dX0_putAhead_13 : decode cX0_putAhead 13 = .ok (.aload_n 0, 1) := by decide +kernel
theorem dX0_putAhead_14 : decode cX0_putAhead 14 = .ok (.aload_n 1, 1) := by decide +kernel
theorem dX0_putAhead_15 : decode cX0_putAhead 15 = .ok (.putfield 26, 3) := by decide +kernel
theorem dX0_putAhead_18 : decode cX0_putAhead 18 = .ok (.aload_n 0, 1) := by decide +kernel
theorem dX0_putAhead_19 : decode cX0_putAhead 19 = .ok (.getfield 30, 3) := by decide +kernel
theorem dX0_putAhead_22 : decode cX0_putAhead 22 = .ok (.ifnonnull 8, 3) := by decide +kernel
theorem dX0_putAhead_25 : decode cX0_putAhead 25 = .ok (.aload_n 0, 1) := by decide +kernel
theorem dX0_putAhead_26 : decode cX0_putAhead 26 = .ok (.aload_n 1, 1) := by decide +kernel
theorem dX0_putAhead_27 : decode cX0_putAhead 27 = .ok (.putfield 30, 3) := by decide +kernel
theorem dX0_putAhead_30 : decode cX0_putAhead 30 = .ok (.return_, 1) := by decide +kernel
set_option maxHeartbeats 4000000 in
set_option maxRecDepth 100000 in
theorem T_X0_putAhead (l : Launch) (hl : l.stackTraces = false) (D : va_G) (cA : Nat → ClassId) {l0 : Option Nat} {l1 : Option Nat} {x : HS} {Q : HS → Prop} {X : String → HS → Prop} (h : w_X0_putAhead l0 l1 x Q X) : YV l yX0_putAhead wsX0_putAhead 0 0 D cA [.q l0, .q l1] x Q X := by
  refine YV.of (cc := cX0_putAhead) (maxL := 2) (ret := none) hl (by decide) rfl rfl (fun g B fr => ?_)
  have o := B.o
  have hb := B.hb
  have hts := B.hts
  have hown : g.s.vm.findClass RX0 = some g.m.cls := B.hown
  have in0 : ∀ w ∈ u_ws RX0 TX0 5, w ∈ wsX0_putAhead := fun w h => (List.mem_cons_of_mem _ (List.mem_append_right _ h))
  have in1 : ∀ w ∈ u_ws RX1 TX1 7, w ∈ wsX0_putAhead := fun w h => (List.mem_cons_of_mem _ (List.mem_append_left _ (List.mem_append_right _ h)))
  unfold w_X0_putAhead at h
  show KW g 2 0 [(0, .q l0), (1, .q l1)] [] x
  refine k_aload_n o hb dX0_putAhead_0 rfl 1 rfl ?_
  refine k_getF (C := RX1) (T := TX1) (N := 7) o hb hts in1 hown rfl (by decide) 1 (by decide) rfl (hts (.fieldLink RX0 20 "FactKeeper$Fact" "behind" "[LFactKeeper$Fact;") (by decide +kernel)) (fun _ h9 => h9) dX0_putAhead_1 h (fun v1 h => ?_)
  refine k_aload_n o hb dX0_putAhead_4 rfl 0 rfl ?_
  refine k_getI (C := RX0) (T := TX0) (N := 5) o hb hts in0 hown rfl (by decide) 0 (by decide) rfl (hts (.fieldLink RX0 7 "FactKeeper$Chain" "lane" "I") (by decide +kernel)) (fun _ h9 => h9) dX0_putAhead_5 h (fun v2 h => ?_)
  refine k_aload_n o hb dX0_putAhead_8 rfl 0 rfl ?_
  refine k_getF (C := RX0) (T := TX0) (N := 5) o hb hts in0 hown rfl (by decide) 3 (by decide) rfl (hts (.fieldLink RX0 26 "FactKeeper$Chain" "first" "LFactKeeper$Fact;") (by decide +kernel)) (fun _ h9 => h9) dX0_putAhead_9 h (fun v3 h => ?_)
  refine k_aast (kd := 25) (ci := 1) (t0 := 4) (rc := (RX1, TX1, 7)) o hb rfl (by decide) (by decide) rfl dX0_putAhead_12 h (fun x4 h => ?_)
  refine k_aload_n o hb dX0_putAhead_13 rfl 0 rfl ?_
  refine k_aload_n o hb dX0_putAhead_14 rfl 1 rfl ?_
  refine k_putF (C := RX0) (T := TX0) (N := 5) (ty := (tyX0 3)) o hb hts in0 tyX0 tyX0_ok nmX0 hown rfl (by decide) 3 (by decide) rfl (hts (.fieldLink RX0 26 "FactKeeper$Chain" "first" "LFactKeeper$Fact;") (by decide +kernel)) (fun _ h9 => h9) rfl (by decide +kernel) (fun r => by cases r <;> rfl) (fun r => by cases r <;> rfl) dX0_putAhead_15 h (fun x5 h => ?_)
  refine k_aload_n o hb dX0_putAhead_18 rfl 0 rfl ?_
  refine k_getF (C := RX0) (T := TX0) (N := 5) o hb hts in0 hown rfl (by decide) 4 (by decide) rfl (hts (.fieldLink RX0 30 "FactKeeper$Chain" "last" "LFactKeeper$Fact;") (by decide +kernel)) (fun _ h9 => h9) dX0_putAhead_19 h (fun v6 h => ?_)
  refine wJoin_elim (M := fun K => ∀  (x8 : HS), K  x8 → KW g 2 30 [] [] x8) h ?_ (fun j7 hj7 h => ?_)
  · skip
    intro  x8 h
    exact k_vret o hb B.hr fr dX0_putAhead_30 h
  · skip
    refine k_ifnonnull (tgt := 30) o hb dX0_putAhead_22 (by decide) h (fun h => ?_) (fun h => ?_)
    · skip
      refine k_aload_n o hb dX0_putAhead_25 rfl 0 rfl ?_
      refine k_aload_n o hb dX0_putAhead_26 rfl 1 rfl ?_
      refine k_putF (C := RX0) (T := TX0) (N := 5) (ty := (tyX0 4)) o hb hts in0 tyX0 tyX0_ok nmX0 hown rfl (by decide) 4 (by decide) rfl (hts (.fieldLink RX0 30 "FactKeeper$Chain" "last" "LFactKeeper$Fact;") (by decide +kernel)) (fun _ h9 => h9) rfl (by decide +kernel) (fun r => by cases r <;> rfl) (fun r => by cases r <;> rfl) dX0_putAhead_27 h (fun x9 h => ?_)
      exact KW.sub [] rfl (hj7 x9 h)
    · skip
      exact KW.sub [] rfl (hj7 x5 h)
theorem dX0_putAfter_0 : decode cX0_putAfter 0 = .ok (.aload_n 1, 1) := by decide +kernel
theorem dX0_putAfter_1 : decode cX0_putAfter 1 = .ok (.getfield 20, 3) := by decide +kernel
theorem dX0_putAfter_4 : decode cX0_putAfter 4 = .ok (.aload_n 0, 1) := by decide +kernel
theorem dX0_putAfter_5 : decode cX0_putAfter 5 = .ok (.getfield 7, 3) := by decide +kernel
theorem dX0_putAfter_8 : decode cX0_putAfter 8 = .ok (.aload_n 2, 1) := by decide +kernel
theorem dX0_putAfter_9 : decode cX0_putAfter 9 = .ok (.getfield 20, 3) := by decide +kernel
theorem dX0_putAfter_12 : decode cX0_putAfter 12 = .ok (.aload_n 0, 1) := by decide +kernel
theorem dX0_putAfter_13 : decode cX0_putAfter 13 = .ok (.getfield 7, 3) := by decide +kernel
theorem dX0_putAfter_16 : decode cX0_putAfter 16 = .ok (.aaload, 1) := by decide +kernel
theorem dX0_putAfter_17 : decode cX0_putAfter 17 = .ok (.aastore, 1) := by decide +kernel
theorem dX0_putAfter_18 : decode cX0_putAfter 18 = .ok (.aload_n 2, 1) := by decide +kernel
theorem dX0_putAfter_19 : decode cX0_putAfter 19 = .ok (.getfield 20, 3) := by decide +kernel
theorem dX0_putAfter_22 : decode cX0_putAfter 22 = .ok (.aload_n 0, 1) := by decide +kernel
theorem dX0_putAfter_23 : decode cX0_putAfter 23 = .ok (.getfield 7, 3) := by decide +kernel
theorem dX0_putAfter_26 : decode cX0_putAfter 26 = .ok (.aload_n 1, 1) := by decide +kernel
theorem dX0_putAfter_27 : decode cX0_putAfter 27 = .ok (.aastore, 1) := by decide +kernel
theorem dX0_putAfter_28 : decode cX0_putAfter 28 = .ok (.aload_n 0, 1) := by decide +kernel
theorem dX0_putAfter_29 : decode cX0_putAfter 29 = .ok (.getfield 30, 3) := by decide +kernel
theorem dX0_putAfter_32 : decode cX0_putAfter 32 = .ok (.aload_n 2, 1) := by decide +kernel
theorem dX0_putAfter_33 : decode cX0_putAfter 33 = .ok (.if_acmp .ne 8, 3) := by decide +kernel
theorem dX0_putAfter_36 : decode cX0_putAfter 36 = .ok (.aload_n 0, 1) := by decide +kernel
theorem dX0_putAfter_37 : decode cX0_putAfter 37 = .ok (.aload_n 1, 1) := by decide +kernel
theorem dX0_putAfter_38 : decode cX0_putAfter 38 = .ok (.putfield 30, 3) := by decide +kernel
theorem dX0_putAfter_41 : decode cX0_putAfter 41 = .ok (.return_, 1) := by decide +kernel
set_option maxHeartbeats 4000000 in
set_option maxRecDepth 100000 in
theorem T_X0_putAfter (l : Launch) (hl : l.stackTraces = false) (D : va_G) (cA : Nat → ClassId) {l0 : Option Nat} {l1 : Option Nat} {l2 : Option Nat} {x : HS} {Q : HS → Prop} {X : String → HS → Prop} (h : w_X0_putAfter l0 l1 l2 x Q X) : YV l yX0_putAfter wsX0_putAfter 0 0 D cA [.q l0, .q l1, .q l2] x Q X := by
  refine YV.of (cc := cX0_putAfter) (maxL := 3) (ret := none) hl (by decide) rfl rfl (fun g B fr => ?_)
  have o := B.o
  have hb := B.hb
  have hts := B.hts
  have hown : g.s.vm.findClass RX0 = some g.m.cls := B.hown
  have in0 : ∀ w ∈ u_ws RX0 TX0 5, w ∈ wsX0_putAfter := fun w h => (List.mem_cons_of_mem _ (List.mem_append_right _ h))
  have in1 : ∀ w ∈ u_ws RX1 TX1 7, w ∈ wsX0_putAfter := fun w h => (List.mem_cons_of_mem _ (List.mem_append_left _ (List.mem_append_right _ h)))
  unfold w_X0_putAfter at h
  show KW g 3 0 [(0, .q l0), (1, .q l1), (2, .q l2)] [] x
  refine k_aload_n o hb dX0_putAfter_0 rfl 1 rfl ?_
  refine k_getF (C := RX1) (T := TX1) (N := 7) o hb hts in1 hown rfl (by decide) 1 (by decide) rfl (hts (.fieldLink RX0 20 "FactKeeper$Fact" "behind" "[LFactKeeper$Fact;") (by decide +kernel)) (fun _ h9 => h9) dX0_putAfter_1 h (fun v1 h => ?_)
  refine k_aload_n o hb dX0_putAfter_4 rfl 0 rfl ?_
  refine k_getI (C := RX0) (T := TX0) (N := 5) o hb hts in0 hown rfl (by decide) 0 (by decide) rfl (hts (.fieldLink RX0 7 "FactKeeper$Chain" "lane" "I") (by decide +kernel)) (fun _ h9 => h9) dX0_putAfter_5 h (fun v2 h => ?_)
  refine k_aload_n o hb dX0_putAfter_8 rfl 2 rfl ?_
  refine k_getF (C := RX1) (T := TX1) (N := 7) o hb hts in1 hown rfl (by decide) 1 (by decide) rfl (hts (.fieldLink RX0 20 "FactKeeper$Fact" "behind" "[LFactKeeper$Fact;") (by decide +kernel)) (fun _ h9 => h9) dX0_putAfter_9 h (fun v3 h => ?_)
  refine k_aload_n o hb dX0_putAfter_12 rfl 0 rfl ?_
  refine k_getI (C := RX0) (T := TX0) (N := 5) o hb hts in0 hown rfl (by decide) 0 (by decide) rfl (hts (.fieldLink RX0 7 "FactKeeper$Chain" "lane" "I") (by decide +kernel)) (fun _ h9 => h9) dX0_putAfter_13 h (fun v4 h => ?_)
  refine k_aald (kd := 25) (t0 := 4) o hb rfl (by decide) dX0_putAfter_16 h (fun v5 h => ?_)
  refine k_aast (kd := 25) (ci := 1) (t0 := 4) (rc := (RX1, TX1, 7)) o hb rfl (by decide) (by decide) rfl dX0_putAfter_17 h (fun x6 h => ?_)
  refine k_aload_n o hb dX0_putAfter_18 rfl 2 rfl ?_
  refine k_getF (C := RX1) (T := TX1) (N := 7) o hb hts in1 hown rfl (by decide) 1 (by decide) rfl (hts (.fieldLink RX0 20 "FactKeeper$Fact" "behind" "[LFactKeeper$Fact;") (by decide +kernel)) (fun _ h9 => h9) dX0_putAfter_19 h (fun v7 h => ?_)
  refine k_aload_n o hb dX0_putAfter_22 rfl 0 rfl ?_
  refine k_getI (C := RX0) (T := TX0) (N := 5) o hb hts in0 hown rfl (by decide) 0 (by decide) rfl (hts (.fieldLink RX0 7 "FactKeeper$Chain" "lane" "I") (by decide +kernel)) (fun _ h9 => h9) dX0_putAfter_23 h (fun v8 h => ?_)
  refine k_aload_n o hb dX0_putAfter_26 rfl 1 rfl ?_
  refine k_aast (kd := 25) (ci := 1) (t0 := 4) (rc := (RX1, TX1, 7)) o hb rfl (by decide) (by decide) rfl dX0_putAfter_27 h (fun x9 h => ?_)
  refine k_aload_n o hb dX0_putAfter_28 rfl 0 rfl ?_
  refine k_getF (C := RX0) (T := TX0) (N := 5) o hb hts in0 hown rfl (by decide) 4 (by decide) rfl (hts (.fieldLink RX0 30 "FactKeeper$Chain" "last" "LFactKeeper$Fact;") (by decide +kernel)) (fun _ h9 => h9) dX0_putAfter_29 h (fun v10 h => ?_)
  refine k_aload_n o hb dX0_putAfter_32 rfl 2 rfl ?_
  refine wJoin_elim (M := fun K => ∀  (x12 : HS), K  x12 → KW g 3 41 [] [] x12) h ?_ (fun j11 hj11 h => ?_)
  · skip
    intro  x12 h
    exact k_vret o hb B.hr fr dX0_putAfter_41 h
  · skip
    refine k_acmp_ne (tgt := 41) o hb dX0_putAfter_33 (by decide) h (fun h => ?_) (fun h => ?_)
    · skip
      refine k_aload_n o hb dX0_putAfter_36 rfl 0 rfl ?_
      refine k_aload_n o hb dX0_putAfter_37 rfl 1 rfl ?_
      refine k_putF (C := RX0) (T := TX0) (N := 5) (ty := (tyX0 4)) o hb hts in0 tyX0 tyX0_ok nmX0 hown rfl (by decide) 4 (by decide) rfl (hts (.fieldLink RX0 30 "FactKeeper$Chain" "last" "LFactKeeper$Fact;") (by decide +kernel)) (fun _ h9 => h9) rfl (by decide +kernel) (fun r => by cases r <;> rfl) (fun r => by cases r <;> rfl) dX0_putAfter_38 h (fun x13 h => ?_)
      exact KW.sub [] rfl (hj11 x13 h)
    · skip
      exact KW.sub [] rfl (hj11 x9 h)
theorem dX0_putBehind_0 : decode cX0_putBehind 0 = .ok (.aload_n 0, 1) := by decide +kernel
theorem dX0_putBehind_1 : decode cX0_putBehind 1 = .ok (.getfield 30, 3) := by decide +kernel
theorem dX0_putBehind_4 : decode cX0_putBehind 4 = .ok (.ifnonnull 11, 3) := by decide +kernel
theorem dX0_putBehind_7 : decode cX0_putBehind 7 = .ok (.aload_n 0, 1) := by decide +kernel
theorem dX0_putBehind_8 : decode cX0_putBehind 8 = .ok (.aload_n 1, 1) := by decide +kernel
theorem dX0_putBehind_9 : decode cX0_putBehind 9 = .ok (.invokevirtual 33, 3) := by decide +kernel
theorem dX0_putBehind_12 : decode cX0_putBehind 12 = .ok (.goto 12, 3) := by decide +kernel
theorem dX0_putBehind_15 : decode cX0_putBehind 15 = .ok (.aload_n 0, 1) := by decide +kernel
theorem dX0_putBehind_16 : decode cX0_putBehind 16 = .ok (.aload_n 1, 1) := by decide +kernel
theorem dX0_putBehind_17 : decode cX0_putBehind 17 = .ok (.aload_n 0, 1) := by decide +kernel
theorem dX0_putBehind_18 : decode cX0_putBehind 18 = .ok (.getfield 30, 3) := by decide +kernel
theorem dX0_putBehind_21 : decode cX0_putBehind 21 = .ok (.invokevirtual 37, 3) := by decide +kernel
theorem dX0_putBehind_24 : decode cX0_putBehind 24 = .ok (.return_, 1) := by decide +kernel
theorem i9wsX0_putBehind_0 : ∀ w ∈ ([.fieldLink RX0 30 "FactKeeper$Chain" "last" "LFactKeeper$Fact;", .methodLink RX0 33 yX0_putAhead, .instanceMethod yX0_putAhead, .selects RX0 yX0_putAhead yX0_putAhead, .initialized RX0, .code yX0_putAhead cX0_putAhead 2 none, .fieldLink RX0 20 "FactKeeper$Fact" "behind" "[LFactKeeper$Fact;", .fieldLink RX0 7 "FactKeeper$Chain" "lane" "I", .fieldLink RX0 26 "FactKeeper$Chain" "first" "LFactKeeper$Fact;", .methodLink RX0 37 yX0_putAfter, .instanceMethod yX0_putAfter, .selects RX0 yX0_putAfter yX0_putAfter, .code yX0_putAfter cX0_putAfter 3 none] : List Cond), w ∈ wsX0_putBehind := fun _ h => (List.mem_cons_of_mem _ (List.mem_append_left _ (List.mem_append_left _ h)))
theorem i9wsX0_putBehind_2 : ∀ w ∈ wsX10, w ∈ wsX0_putBehind := fun _ h => (List.mem_cons_of_mem _ (List.mem_append_right _ h))
theorem i9wsX0_putBehind_1 : ∀ w ∈ wsX00, w ∈ wsX0_putBehind := fun _ h => (List.mem_cons_of_mem _ (List.mem_append_left _ (List.mem_append_right _ h)))
set_option maxRecDepth 20000 in
theorem ggX0_putBehind_X0_putAhead : GoodIn wsX0_putBehind wsX0_putAhead := (gin_c (mem_at i9wsX0_putBehind_0 5 rfl) rfl (goodIn_app (goodIn_app (gin_c (mem_at i9wsX0_putBehind_0 6 rfl) rfl (gin_c (mem_at i9wsX0_putBehind_0 7 rfl) rfl (gin_c (mem_at i9wsX0_putBehind_0 8 rfl) rfl (gin_c (mem_at i9wsX0_putBehind_0 0 rfl) rfl gin_n)))) (goodIn_sub i9wsX0_putBehind_2 g9_0)) (goodIn_sub i9wsX0_putBehind_1 g9_1)))
set_option maxRecDepth 20000 in
theorem gX0_putBehind_X0_putAhead : GoodIn wsX0_putBehind (wsV RX0 33 RX0 yX0_putAhead wsX0_putAhead) := goodIn_app (gin_c (mem_at i9wsX0_putBehind_0 1 rfl) rfl (gin_c (mem_at i9wsX0_putBehind_0 2 rfl) rfl (gin_c (mem_at i9wsX0_putBehind_0 3 rfl) rfl (gin_c (mem_at i9wsX0_putBehind_0 4 rfl) rfl gin_n)))) ggX0_putBehind_X0_putAhead
set_option maxRecDepth 20000 in
theorem ggX0_putBehind_X0_putAfter : GoodIn wsX0_putBehind wsX0_putAfter := (gin_c (mem_at i9wsX0_putBehind_0 12 rfl) rfl (goodIn_app (goodIn_app (gin_c (mem_at i9wsX0_putBehind_0 6 rfl) rfl (gin_c (mem_at i9wsX0_putBehind_0 7 rfl) rfl (gin_c (mem_at i9wsX0_putBehind_0 0 rfl) rfl gin_n))) (goodIn_sub i9wsX0_putBehind_2 g9_0)) (goodIn_sub i9wsX0_putBehind_1 g9_1)))
set_option maxRecDepth 20000 in
theorem gX0_putBehind_X0_putAfter : GoodIn wsX0_putBehind (wsV RX0 37 RX0 yX0_putAfter wsX0_putAfter) := goodIn_app (gin_c (mem_at i9wsX0_putBehind_0 9 rfl) rfl (gin_c (mem_at i9wsX0_putBehind_0 10 rfl) rfl (gin_c (mem_at i9wsX0_putBehind_0 11 rfl) rfl (gin_c (mem_at i9wsX0_putBehind_0 4 rfl) rfl gin_n)))) ggX0_putBehind_X0_putAfter
set_option maxHeartbeats 4000000 in
set_option maxRecDepth 100000 in
theorem T_X0_putBehind (l : Launch) (hl : l.stackTraces = false) (D : va_G) (cA : Nat → ClassId) {l0 : Option Nat} {l1 : Option Nat} {x : HS} {Q : HS → Prop} {X : String → HS → Prop} (h : w_X0_putBehind l0 l1 x Q X) : YV l yX0_putBehind wsX0_putBehind 1 22 D cA [.q l0, .q l1] x Q X := by
  refine YV.of (cc := cX0_putBehind) (maxL := 2) (ret := none) hl (by decide) rfl rfl (fun g B fr => ?_)
  have o := B.o
  have hb := B.hb
  have hts := B.hts
  have hown : g.s.vm.findClass RX0 = some g.m.cls := B.hown
  have in0 : ∀ w ∈ u_ws RX0 TX0 5, w ∈ wsX0_putBehind := fun w h => (List.mem_cons_of_mem _ (List.mem_append_left _ (List.mem_append_right _ h)))
  unfold w_X0_putBehind at h
  show KW g 2 0 [(0, .q l0), (1, .q l1)] [] x
  refine k_aload_n o hb dX0_putBehind_0 rfl 0 rfl ?_
  refine k_getF (C := RX0) (T := TX0) (N := 5) o hb hts in0 hown rfl (by decide) 4 (by decide) rfl (hts (.fieldLink RX0 30 "FactKeeper$Chain" "last" "LFactKeeper$Fact;") (by decide +kernel)) (fun _ h9 => h9) dX0_putBehind_1 h (fun v1 h => ?_)
  refine wJoin_elim (M := fun K => ∀  (x3 : HS), K  x3 → KW g 2 24 [] [] x3) h ?_ (fun j2 hj2 h => ?_)
  · skip
    intro  x3 h
    exact k_vret o hb B.hr fr dX0_putBehind_24 h
  · skip
    refine k_ifnonnull (tgt := 15) o hb dX0_putBehind_4 (by decide) h (fun h => ?_) (fun h => ?_)
    · skip
      refine k_aload_n o hb dX0_putBehind_7 rfl 0 rfl ?_
      refine k_aload_n o hb dX0_putBehind_8 rfl 1 rfl ?_
      refine k_run_v o (fun _ _ q => q) (k_runV (ci := 0) (rc := (RX0, TX0, 5)) o hb B.hml hown hts rfl (by decide) (T_X0_putAhead g.l o.hl g.D g.cA h.2) (cwV 1 hts gX0_putBehind_X0_putAhead rfl rfl rfl (by decide +kernel) ⟨yle B.hR1 rfl, yle B.hR2 rfl⟩) h.1 rfl rfl (Nat.le_of_ble_eq_true rfl) dX0_putBehind_9) (fun x4 h => ?_)
      refine k_goto (tgt := 24) o hb dX0_putBehind_12 (by decide) ?_
      exact KW.sub [] rfl (hj2 x4 h)
    · skip
      refine k_aload_n o hb dX0_putBehind_15 rfl 0 rfl ?_
      refine k_aload_n o hb dX0_putBehind_16 rfl 1 rfl ?_
      refine k_aload_n o hb dX0_putBehind_17 rfl 0 rfl ?_
      refine k_getF (C := RX0) (T := TX0) (N := 5) o hb hts in0 hown rfl (by decide) 4 (by decide) rfl (hts (.fieldLink RX0 30 "FactKeeper$Chain" "last" "LFactKeeper$Fact;") (by decide +kernel)) (fun _ h9 => h9) dX0_putBehind_18 h (fun v6 h => ?_)
      refine k_run_v o (fun _ _ q => q) (k_runV (ci := 0) (rc := (RX0, TX0, 5)) o hb B.hml hown hts rfl (by decide) (T_X0_putAfter g.l o.hl g.D g.cA h.2) (cwV 2 hts gX0_putBehind_X0_putAfter rfl rfl rfl (by decide +kernel) ⟨yle B.hR1 rfl, yle B.hR2 rfl⟩) h.1 rfl rfl (Nat.le_of_ble_eq_true rfl) dX0_putBehind_21) (fun x7 h => ?_)
      exact KW.sub [] rfl (hj2 x7 h)
theorem dX0_empty_0 : decode cX0_empty 0 = .ok (.aload_n 0, 1) := by decide +kernel
theorem dX0_empty_1 : decode cX0_empty 1 = .ok (.aconst_null, 1) := by decide +kernel
theorem dX0_empty_2 : decode cX0_empty 2 = .ok (.putfield 26, 3) := by decide +kernel
theorem dX0_empty_5 : decode cX0_empty 5 = .ok (.aload_n 0, 1) := by decide +kernel
theorem dX0_empty_6 : decode cX0_empty 6 = .ok (.aconst_null, 1) := by decide +kernel
theorem dX0_empty_7 : decode cX0_empty 7 = .ok (.putfield 30, 3) := by decide +kernel
theorem dX0_empty_10 : decode cX0_empty 10 = .ok (.return_, 1) := by decide +kernel
set_option maxHeartbeats 4000000 in
set_option maxRecDepth 100000 in
theorem T_X0_empty (l : Launch) (hl : l.stackTraces = false) (D : va_G) (cA : Nat → ClassId) {l0 : Option Nat} {x : HS} {Q : HS → Prop} {X : String → HS → Prop} (h : w_X0_empty l0 x Q X) : YV l yX0_empty wsX0_empty 0 0 D cA [.q l0] x Q X := by
  refine YV.of (cc := cX0_empty) (maxL := 1) (ret := none) hl (by decide) rfl rfl (fun g B fr => ?_)
  have o := B.o
  have hb := B.hb
  have hts := B.hts
  have hown : g.s.vm.findClass RX0 = some g.m.cls := B.hown
  have in0 : ∀ w ∈ u_ws RX0 TX0 5, w ∈ wsX0_empty := fun w h => (List.mem_cons_of_mem _ (List.mem_append_right _ h))
  unfold w_X0_empty at h
  show KW g 1 0 [(0, .q l0)] [] x
  refine k_aload_n o hb dX0_empty_0 rfl 0 rfl ?_
  refine k_null o hb dX0_empty_1 ?_
  refine k_putF (C := RX0) (T := TX0) (N := 5) (ty := (tyX0 3)) o hb hts in0 tyX0 tyX0_ok nmX0 hown rfl (by decide) 3 (by decide) rfl (hts (.fieldLink RX0 26 "FactKeeper$Chain" "first" "LFactKeeper$Fact;") (by decide +kernel)) (fun _ h9 => h9) rfl (by decide +kernel) (fun r => by cases r <;> rfl) (fun r => by cases r <;> rfl) dX0_empty_2 h (fun x1 h => ?_)
  refine k_aload_n o hb dX0_empty_5 rfl 0 rfl ?_
  refine k_null o hb dX0_empty_6 ?_
  refine k_putF (C := RX0) (T := TX0) (N := 5) (ty := (tyX0 4)) o hb hts in0 tyX0 tyX0_ok nmX0 hown rfl (by decide) 4 (by decide) rfl (hts (.fieldLink RX0 30 "FactKeeper$Chain" "last" "LFactKeeper$Fact;") (by decide +kernel)) (fun _ h9 => h9) rfl (by decide +kernel) (fun r => by cases r <;> rfl) (fun r => by cases r <;> rfl) dX0_empty_7 h (fun x2 h => ?_)
  exact k_vret o hb B.hr fr dX0_empty_10 h
theorem dX0_factsAhead_0 : decode cX0_factsAhead 0 = .ok (.iconst 0, 1) := by decide +kernel
theorem dX0_factsAhead_1 : decode cX0_factsAhead 1 = .ok (.istore_n 2, 1) := by decide +kernel
theorem dX0_factsAhead_2 : decode cX0_factsAhead 2 = .ok (.aload_n 0, 1) := by decide +kernel
theorem dX0_factsAhead_3 : decode cX0_factsAhead 3 = .ok (.getfield 26, 3) := by decide +kernel
theorem dX0_factsAhead_6 : decode cX0_factsAhead 6 = .ok (.astore_n 3, 1) := by decide +kernel
theorem dX0_factsAhead_7 : decode cX0_factsAhead 7 = .ok (.aload_n 3, 1) := by decide +kernel
theorem dX0_factsAhead_8 : decode cX0_factsAhead 8 = .ok (.ifnull 24, 3) := by decide +kernel
theorem dX0_factsAhead_11 : decode cX0_factsAhead 11 = .ok (.aload_n 3, 1) := by decide +kernel
theorem dX0_factsAhead_12 : decode cX0_factsAhead 12 = .ok (.aload_n 1, 1) := by decide +kernel
theorem dX0_factsAhead_13 : decode cX0_factsAhead 13 = .ok (.if_acmp .eq 19, 3) := by decide +kernel
theorem dX0_factsAhead_16 : decode cX0_factsAhead 16 = .ok (.iinc 2 1, 3) := by decide +kernel
theorem dX0_factsAhead_19 : decode cX0_factsAhead 19 = .ok (.aload_n 3, 1) := by decide +kernel
theorem dX0_factsAhead_20 : decode cX0_factsAhead 20 = .ok (.getfield 20, 3) := by decide +kernel
theorem dX0_factsAhead_23 : decode cX0_factsAhead 23 = .ok (.aload_n 0, 1) := by decide +kernel
theorem dX0_factsAhead_24 : decode cX0_factsAhead 24 = .ok (.getfield 7, 3) := by decide +kernel
theorem dX0_factsAhead_27 : decode cX0_factsAhead 27 = .ok (.aaload, 1) := by decide +kernel
theorem dX0_factsAhead_28 : decode cX0_factsAhead 28 = .ok (.astore_n 3, 1) := by decide +kernel
theorem dX0_factsAhead_29 : decode cX0_factsAhead 29 = .ok (.goto (-22), 3) := by decide +kernel
theorem dX0_factsAhead_32 : decode cX0_factsAhead 32 = .ok (.iload_n 2, 1) := by decide +kernel
theorem dX0_factsAhead_33 : decode cX0_factsAhead 33 = .ok (.ireturn, 1) := by decide +kernel
set_option maxHeartbeats 4000000 in
set_option maxRecDepth 100000 in
theorem T_X0_factsAhead (l : Launch) (hl : l.stackTraces = false) (D : va_G) (cA : Nat → ClassId) {l0 : Option Nat} {l1 : Option Nat} {x : HS} {Q : Int32 → HS → Prop} {X : String → HS → Prop} (h : w_X0_factsAhead l0 l1 x Q X) : YI l yX0_factsAhead wsX0_factsAhead 0 0 D cA [.q l0, .q l1] x Q X := by
  refine YI.of (cc := cX0_factsAhead) (maxL := 4) (ret := (some .int)) hl (by decide) rfl rfl (fun g B fr => ?_)
  have o := B.o
  have hb := B.hb
  have hts := B.hts
  have hown : g.s.vm.findClass RX0 = some g.m.cls := B.hown
  have in0 : ∀ w ∈ u_ws RX0 TX0 5, w ∈ wsX0_factsAhead := fun w h => (List.mem_cons_of_mem _ (List.mem_append_left _ (List.mem_append_right _ h)))
  have in1 : ∀ w ∈ u_ws RX1 TX1 7, w ∈ wsX0_factsAhead := fun w h => (List.mem_cons_of_mem _ (List.mem_append_right _ h))
  unfold w_X0_factsAhead at h
  show KW g 4 0 [(0, .q l0), (1, .q l1)] [] x
  refine k_iconst (v := 0) o hb dX0_factsAhead_0 (by decide) ?_
  refine k_istore_n o hb dX0_factsAhead_1 rfl rfl ?_
  refine k_aload_n o hb dX0_factsAhead_2 rfl 1 rfl ?_
  refine k_getF (C := RX0) (T := TX0) (N := 5) o hb hts in0 hown rfl (by decide) 3 (by decide) rfl (hts (.fieldLink RX0 26 "FactKeeper$Chain" "first" "LFactKeeper$Fact;") (by decide +kernel)) (fun _ h9 => h9) dX0_factsAhead_3 h (fun v1 h => ?_)
  refine k_astore_n o hb dX0_factsAhead_6 rfl rfl ?_
  refine KW.sub [2, 3, 1, 0] rfl ?_
  refine wLoop_elim (M := fun (v5 : Int32 × Option Nat) (x4 : HS) => KW g 4 7 [(0, .q l0), (1, .q l1), (2, .i v5.1), (3, .q v5.2)] [] x4) h ?_
  intro v5 x4 again2 ih3 h
  refine k_aload_n o hb dX0_factsAhead_7 rfl 3 rfl ?_
  refine wJoin_elim (M := fun K => ∀  (x7 : HS), K  x7 → KW g 4 32 [(2, .i v5.1)] [] x7) h ?_ (fun j6 hj6 h => ?_)
  · skip
    intro  x7 h
    refine k_iload_n o hb dX0_factsAhead_32 rfl 0 rfl ?_
    exact k_iret o hb B.hr fr dX0_factsAhead_33 h
  · skip
    refine k_ifnull (tgt := 32) o hb dX0_factsAhead_8 (by decide) h (fun h => ?_) (fun h => ?_)
    · skip
      exact KW.sub [2] rfl (hj6 x4 h)
    · skip
      refine k_aload_n o hb dX0_factsAhead_11 rfl 3 rfl ?_
      refine k_aload_n o hb dX0_factsAhead_12 rfl 1 rfl ?_
      refine k_acmp_eq (tgt := 32) o hb dX0_factsAhead_13 (by decide) h (fun h => ?_) (fun h => ?_)
      · skip
        exact KW.sub [2] rfl (hj6 x4 h)
      · skip
        refine k_iinc (w := 1) o hb dX0_factsAhead_16 2 rfl (by decide) rfl ?_
        refine k_aload_n o hb dX0_factsAhead_19 rfl 3 rfl ?_
        refine k_getF (C := RX1) (T := TX1) (N := 7) o hb hts in1 hown rfl (by decide) 1 (by decide) rfl (hts (.fieldLink RX0 20 "FactKeeper$Fact" "behind" "[LFactKeeper$Fact;") (by decide +kernel)) (fun _ h9 => h9) dX0_factsAhead_20 h (fun v8 h => ?_)
        refine k_aload_n o hb dX0_factsAhead_23 rfl 1 rfl ?_
        refine k_getI (C := RX0) (T := TX0) (N := 5) o hb hts in0 hown rfl (by decide) 0 (by decide) rfl (hts (.fieldLink RX0 7 "FactKeeper$Chain" "lane" "I") (by decide +kernel)) (fun _ h9 => h9) dX0_factsAhead_24 h (fun v9 h => ?_)
        refine k_aald (kd := 25) (t0 := 4) o hb rfl (by decide) dX0_factsAhead_27 h (fun v10 h => ?_)
        refine k_astore_n o hb dX0_factsAhead_28 rfl rfl ?_
        refine k_goto (tgt := 7) o hb dX0_factsAhead_29 (by decide) ?_
        exact KW.sub [2, 3, 1, 0] rfl (ih3 ((v5.1 + 1), v10) x4 h)
theorem dX1_init_0 : decode cX1_init 0 = .ok (.aload_n 0, 1) := by decide +kernel
theorem dX1_init_1 : decode cX1_init 1 = .ok (.invokespecial 3, 3) := by decide +kernel
theorem dX1_init_4 : decode cX1_init 4 = .ok (.aload_n 0, 1) := by decide +kernel
theorem dX1_init_5 : decode cX1_init 5 = .ok (.iconst 4, 1) := by decide +kernel
theorem dX1_init_6 : decode cX1_init 6 = .ok (.newarray .int, 2) := by decide +kernel
theorem dX1_init_8 : decode cX1_init 8 = .ok (.putfield 9, 3) := by decide +kernel
theorem dX1_init_11 : decode cX1_init 11 = .ok (.aload_n 0, 1) := by decide +kernel
theorem dX1_init_12 : decode cX1_init 12 = .ok (.iconst 5, 1) := by decide +kernel
theorem dX1_init_13 : decode cX1_init 13 = .ok (.anewarray 10, 3) := by decide +kernel
theorem dX1_init_16 : decode cX1_init 16 = .ok (.putfield 15, 3) := by decide +kernel
theorem dX1_init_19 : decode cX1_init 19 = .ok (.return_, 1) := by decide +kernel
set_option maxHeartbeats 4000000 in
set_option maxRecDepth 100000 in
theorem T_X1_init (l : Launch) (hl : l.stackTraces = false) (D : va_G) (cA : Nat → ClassId) {l0 : Option Nat} {x : HS} {Q : HS → Prop} {X : String → HS → Prop} (h : w_X1_init l0 x Q X) : YV l yX1_init wsX1_init 1 12 D cA [.q l0] x Q X := by
  refine YV.of (cc := cX1_init) (maxL := 1) (ret := none) hl (by decide) rfl rfl (fun g B fr => ?_)
  have o := B.o
  have hb := B.hb
  have hts := B.hts
  have hown : g.s.vm.findClass RX1 = some g.m.cls := B.hown
  have in1 : ∀ w ∈ u_ws RX1 TX1 7, w ∈ wsX1_init := fun w h => (List.mem_cons_of_mem _ (List.mem_append_right _ h))
  unfold w_X1_init at h
  show KW g 1 0 [(0, .q l0)] [] x
  refine k_aload_n o hb dX1_init_0 rfl 0 rfl ?_
  refine k_objInit o hb B.hml hown (hts (.methodLink RX1 3 objectInit) (by decide +kernel)) (hts (.instanceMethod objectInit) (by decide +kernel)) (hts (.code objectInit ⟨#[0xb1]⟩ 1 none) (by decide +kernel)) (yle B.hR1 rfl) (yle B.hR2 rfl) dX1_init_1 h.1 ?_
  have h := h.2
  refine k_aload_n o hb dX1_init_4 rfl 0 rfl ?_
  refine k_iconst (v := 4) o hb dX1_init_5 (by decide) ?_
  refine k_newJ (atype := .int) (ty := .int) (kd := 20) (t0 := 0) o hb (hts (.arrayClass .int) (by decide +kernel)) rfl (by decide) (by decide) rfl (fun _ _ => rfl) (by decide) dX1_init_6 h (fun q1 x2 h => ?_)
  refine k_putFF (C := RX1) (T := TX1) (N := 7) (ty := (tyX1 0)) o hb hts in1 tyX1 tyX1_ok nmX1 hown rfl (by decide) 0 (by decide) rfl (hts (.fieldLink RX1 9 "FactKeeper$Fact" "columns" "[I") (by decide +kernel)) (fun _ h9 => h9) rfl B.hnm rfl (by decide +kernel) (fun r => by cases r <;> rfl) (fun r => by cases r <;> rfl) dX1_init_8 h (fun x3 h => ?_)
  refine k_aload_n o hb dX1_init_11 rfl 0 rfl ?_
  refine k_iconst (v := 5) o hb dX1_init_12 (by decide) ?_
  refine k_newG (kd := 25) (t0 := 4) o hb hown (hts (.classLink RX1 10 RX1) (by decide +kernel)) o.hZ.2.2.2.2.1.2.1 (by decide) rfl dX1_init_13 h (fun q4 x5 h => ?_)
  refine k_putFF (C := RX1) (T := TX1) (N := 7) (ty := (tyX1 1)) o hb hts in1 tyX1 tyX1_ok nmX1 hown rfl (by decide) 1 (by decide) rfl (hts (.fieldLink RX1 15 "FactKeeper$Fact" "behind" "[LFactKeeper$Fact;") (by decide +kernel)) (fun _ h9 => h9) rfl B.hnm rfl (by decide +kernel) (fun r => by cases r <;> rfl) (fun r => by cases r <;> rfl) dX1_init_16 h (fun x6 h => ?_)
  exact k_vret o hb B.hr fr dX1_init_19 h
theorem dX1_isThere_0 : decode cX1_isThere 0 = .ok (.aload_n 0, 1) := by decide +kernel
theorem dX1_isThere_1 : decode cX1_isThere 1 = .ok (.getfield 19, 3) := by decide +kernel
theorem dX1_isThere_4 : decode cX1_isThere 4 = .ok (.iload_n 1, 1) := by decide +kernel
theorem dX1_isThere_5 : decode cX1_isThere 5 = .ok (.if_icmp .gt 23, 3) := by decide +kernel
theorem dX1_isThere_8 : decode cX1_isThere 8 = .ok (.aload_n 0, 1) := by decide +kernel
theorem dX1_isThere_9 : decode cX1_isThere 9 = .ok (.getfield 23, 3) := by decide +kernel
theorem dX1_isThere_12 : decode cX1_isThere 12 = .ok (.iconst (-1), 1) := by decide +kernel
theorem dX1_isThere_13 : decode cX1_isThere 13 = .ok (.if_icmp .eq 11, 3) := by decide +kernel
theorem dX1_isThere_16 : decode cX1_isThere 16 = .ok (.iload_n 1, 1) := by decide +kernel
theorem dX1_isThere_17 : decode cX1_isThere 17 = .ok (.aload_n 0, 1) := by decide +kernel
theorem dX1_isThere_18 : decode cX1_isThere 18 = .ok (.getfield 23, 3) := by decide +kernel
theorem dX1_isThere_21 : decode cX1_isThere 21 = .ok (.if_icmp .ge 7, 3) := by decide +kernel
theorem dX1_isThere_24 : decode cX1_isThere 24 = .ok (.iconst 1, 1) := by decide +kernel
theorem dX1_isThere_25 : decode cX1_isThere 25 = .ok (.goto 4, 3) := by decide +kernel
theorem dX1_isThere_28 : decode cX1_isThere 28 = .ok (.iconst 0, 1) := by decide +kernel
theorem dX1_isThere_29 : decode cX1_isThere 29 = .ok (.ireturn, 1) := by decide +kernel
set_option maxHeartbeats 4000000 in
set_option maxRecDepth 100000 in
theorem T_X1_isThere (l : Launch) (hl : l.stackTraces = false) (D : va_G) (cA : Nat → ClassId) {l0 : Option Nat} {l1 : Int32} {x : HS} {Q : Int32 → HS → Prop} {X : String → HS → Prop} (h : w_X1_isThere l0 l1 x Q X) : YI l yX1_isThere wsX1_isThere 0 0 D cA [.q l0, .i l1] x Q X := by
  refine YI.of (cc := cX1_isThere) (maxL := 2) (ret := (some .boolean)) hl (by decide) rfl rfl (fun g B fr => ?_)
  have o := B.o
  have hb := B.hb
  have hts := B.hts
  have hown : g.s.vm.findClass RX1 = some g.m.cls := B.hown
  have in1 : ∀ w ∈ u_ws RX1 TX1 7, w ∈ wsX1_isThere := fun w h => (List.mem_cons_of_mem _ (List.mem_append_right _ h))
  unfold w_X1_isThere at h
  show KW g 2 0 [(0, .q l0), (1, .i l1)] [] x
  refine k_aload_n o hb dX1_isThere_0 rfl 0 rfl ?_
  refine k_getI (C := RX1) (T := TX1) (N := 7) o hb hts in1 hown rfl (by decide) 5 (by decide) rfl (hts (.fieldLink RX1 19 "FactKeeper$Fact" "born" "I") (by decide +kernel)) (fun _ h9 => h9) dX1_isThere_1 h (fun v1 h => ?_)
  refine k_iload_n o hb dX1_isThere_4 rfl 1 rfl ?_
  refine wJoin_elim (M := fun K => ∀ (v4 : Int32) (x3 : HS), K v4 x3 → KW g 2 29 [] [.i v4] x3) h ?_ (fun j2 hj2 h => ?_)
  · skip
    intro v4 x3 h
    exact k_zret o hb B.hr fr dX1_isThere_29 h
  · skip
    refine wJoin_elim (M := fun K => ∀  (x6 : HS), K  x6 → KW g 2 28 [] [] x6) h ?_ (fun j5 hj5 h => ?_)
    · skip
      intro  x6 h
      refine k_iconst (v := 0) o hb dX1_isThere_28 (by decide) ?_
      exact KW.sub [] rfl (hj2 0 x6 h)
    · skip
      refine k_icmp_gt (tgt := 28) o hb dX1_isThere_5 (by decide) h (fun h => ?_) (fun h => ?_)
      · skip
        exact KW.sub [] rfl (hj5 x h)
      · skip
        refine k_aload_n o hb dX1_isThere_8 rfl 0 rfl ?_
        refine k_getI (C := RX1) (T := TX1) (N := 7) o hb hts in1 hown rfl (by decide) 6 (by decide) rfl (hts (.fieldLink RX1 23 "FactKeeper$Fact" "died" "I") (by decide +kernel)) (fun _ h9 => h9) dX1_isThere_9 h (fun v7 h => ?_)
        refine k_iconst (v := (-1)) o hb dX1_isThere_12 (by decide) ?_
        refine wJoin_elim (M := fun K => ∀  (x9 : HS), K  x9 → KW g 2 24 [] [] x9) h ?_ (fun j8 hj8 h => ?_)
        · skip
          intro  x9 h
          refine k_iconst (v := 1) o hb dX1_isThere_24 (by decide) ?_
          refine k_goto (tgt := 29) o hb dX1_isThere_25 (by decide) ?_
          exact KW.sub [] rfl (hj2 1 x9 h)
        · skip
          refine k_icmp_eq (tgt := 24) o hb dX1_isThere_13 (by decide) h (fun h => ?_) (fun h => ?_)
          · skip
            exact KW.sub [] rfl (hj8 x h)
          · skip
            refine k_iload_n o hb dX1_isThere_16 rfl 1 rfl ?_
            refine k_aload_n o hb dX1_isThere_17 rfl 0 rfl ?_
            refine k_getI (C := RX1) (T := TX1) (N := 7) o hb hts in1 hown rfl (by decide) 6 (by decide) rfl (hts (.fieldLink RX1 23 "FactKeeper$Fact" "died" "I") (by decide +kernel)) (fun _ h9 => h9) dX1_isThere_18 h (fun v10 h => ?_)
            refine k_icmp_ge (tgt := 28) o hb dX1_isThere_21 (by decide) h (fun h => ?_) (fun h => ?_)
            · skip
              exact KW.sub [] rfl (hj5 x h)
            · skip
              exact KW.sub [] rfl (hj8 x h)
theorem dX1_isThereNow_0 : decode cX1_isThereNow 0 = .ok (.aload_n 0, 1) := by decide +kernel
theorem dX1_isThereNow_1 : decode cX1_isThereNow 1 = .ok (.getfield 23, 3) := by decide +kernel
theorem dX1_isThereNow_4 : decode cX1_isThereNow 4 = .ok (.iconst (-1), 1) := by decide +kernel
theorem dX1_isThereNow_5 : decode cX1_isThereNow 5 = .ok (.if_icmp .ne 7, 3) := by decide +kernel
theorem dX1_isThereNow_8 : decode cX1_isThereNow 8 = .ok (.iconst 1, 1) := by decide +kernel
theorem dX1_isThereNow_9 : decode cX1_isThereNow 9 = .ok (.goto 4, 3) := by decide +kernel
theorem dX1_isThereNow_12 : decode cX1_isThereNow 12 = .ok (.iconst 0, 1) := by decide +kernel
theorem dX1_isThereNow_13 : decode cX1_isThereNow 13 = .ok (.ireturn, 1) := by decide +kernel
set_option maxHeartbeats 4000000 in
set_option maxRecDepth 100000 in
theorem T_X1_isThereNow (l : Launch) (hl : l.stackTraces = false) (D : va_G) (cA : Nat → ClassId) {l0 : Option Nat} {x : HS} {Q : Int32 → HS → Prop} {X : String → HS → Prop} (h : w_X1_isThereNow l0 x Q X) : YI l yX1_isThereNow wsX1_isThereNow 0 0 D cA [.q l0] x Q X := by
  refine YI.of (cc := cX1_isThereNow) (maxL := 1) (ret := (some .boolean)) hl (by decide) rfl rfl (fun g B fr => ?_)
  have o := B.o
  have hb := B.hb
  have hts := B.hts
  have hown : g.s.vm.findClass RX1 = some g.m.cls := B.hown
  have in1 : ∀ w ∈ u_ws RX1 TX1 7, w ∈ wsX1_isThereNow := fun w h => (List.mem_cons_of_mem _ (List.mem_append_right _ h))
  unfold w_X1_isThereNow at h
  show KW g 1 0 [(0, .q l0)] [] x
  refine k_aload_n o hb dX1_isThereNow_0 rfl 0 rfl ?_
  refine k_getI (C := RX1) (T := TX1) (N := 7) o hb hts in1 hown rfl (by decide) 6 (by decide) rfl (hts (.fieldLink RX1 23 "FactKeeper$Fact" "died" "I") (by decide +kernel)) (fun _ h9 => h9) dX1_isThereNow_1 h (fun v1 h => ?_)
  refine k_iconst (v := (-1)) o hb dX1_isThereNow_4 (by decide) ?_
  refine wJoin_elim (M := fun K => ∀ (v4 : Int32) (x3 : HS), K v4 x3 → KW g 1 13 [] [.i v4] x3) h ?_ (fun j2 hj2 h => ?_)
  · skip
    intro v4 x3 h
    exact k_zret o hb B.hr fr dX1_isThereNow_13 h
  · skip
    refine k_icmp_ne (tgt := 12) o hb dX1_isThereNow_5 (by decide) h (fun h => ?_) (fun h => ?_)
    · skip
      refine k_iconst (v := 1) o hb dX1_isThereNow_8 (by decide) ?_
      refine k_goto (tgt := 13) o hb dX1_isThereNow_9 (by decide) ?_
      exact KW.sub [] rfl (hj2 1 x h)
    · skip
      refine k_iconst (v := 0) o hb dX1_isThereNow_12 (by decide) ?_
      exact KW.sub [] rfl (hj2 0 x h)
theorem dX11_isIn_0 : decode cX11_isIn 0 = .ok (.iload_n 0, 1) := by decide +kernel
theorem dX11_isIn_1 : decode cX11_isIn 1 = .ok (.iload_n 1, 1) := by decide +kernel
theorem dX11_isIn_2 : decode cX11_isIn 2 = .ok (.ishr, 1) := by decide +kernel
theorem dX11_isIn_3 : decode cX11_isIn 3 = .ok (.iconst 1, 1) := by decide +kernel
theorem dX11_isIn_4 : decode cX11_isIn 4 = .ok (.iand, 1) := by decide +kernel
theorem dX11_isIn_5 : decode cX11_isIn 5 = .ok (.iconst 1, 1) := by decide +kernel
theorem dX11_isIn_6 : decode cX11_isIn 6 = .ok (.if_icmp .ne 7, 3) := by decide +kernel
theorem dX11_isIn_9 : decode cX11_isIn 9 = .ok (.iconst 1, 1) := by decide +kernel
theorem dX11_isIn_10 : decode cX11_isIn 10 = .ok (.goto 4, 3) := by decide +kernel
theorem dX11_isIn_13 : decode cX11_isIn 13 = .ok (.iconst 0, 1) := by decide +kernel
theorem dX11_isIn_14 : decode cX11_isIn 14 = .ok (.ireturn, 1) := by decide +kernel
set_option maxHeartbeats 4000000 in
set_option maxRecDepth 100000 in
theorem T_X11_isIn (l : Launch) (hl : l.stackTraces = false) (D : va_G) (cA : Nat → ClassId) {l0 : Int32} {l1 : Int32} {x : HS} {Q : Int32 → HS → Prop} {X : String → HS → Prop} (h : w_X11_isIn l0 l1 x Q X) : YI l yX11_isIn wsX11_isIn 0 0 D cA [.i l0, .i l1] x Q X := by
  refine YI.of (cc := cX11_isIn) (maxL := 2) (ret := (some .boolean)) hl (by decide) rfl rfl (fun g B fr => ?_)
  have o := B.o
  have hb := B.hb
  have hts := B.hts
  have hown : g.s.vm.findClass RX11 = some g.m.cls := B.hown
  unfold w_X11_isIn at h
  show KW g 2 0 [(0, .i l0), (1, .i l1)] [] x
  refine k_iload_n o hb dX11_isIn_0 rfl 0 rfl ?_
  refine k_iload_n o hb dX11_isIn_1 rfl 1 rfl ?_
  refine k_ishr o hb dX11_isIn_2 ?_
  refine k_iconst (v := 1) o hb dX11_isIn_3 (by decide) ?_
  refine k_iand o hb dX11_isIn_4 ?_
  refine k_iconst (v := 1) o hb dX11_isIn_5 (by decide) ?_
  refine wJoin_elim (M := fun K => ∀ (v3 : Int32) (x2 : HS), K v3 x2 → KW g 2 14 [] [.i v3] x2) h ?_ (fun j1 hj1 h => ?_)
  · skip
    intro v3 x2 h
    exact k_zret o hb B.hr fr dX11_isIn_14 h
  · skip
    refine k_icmp_ne (tgt := 13) o hb dX11_isIn_6 (by decide) h (fun h => ?_) (fun h => ?_)
    · skip
      refine k_iconst (v := 1) o hb dX11_isIn_9 (by decide) ?_
      refine k_goto (tgt := 14) o hb dX11_isIn_10 (by decide) ?_
      exact KW.sub [] rfl (hj1 1 x h)
    · skip
      refine k_iconst (v := 0) o hb dX11_isIn_13 (by decide) ?_
      exact KW.sub [] rfl (hj1 0 x h)
theorem dX1_fits_0 : decode cX1_fits 0 = .ok (.iconst 0, 1) := by decide +kernel
theorem dX1_fits_1 : decode cX1_fits 1 = .ok (.istore_n 3, 1) := by decide +kernel
theorem dX1_fits_2 : decode cX1_fits 2 = .ok (.iload_n 3, 1) := by decide +kernel
theorem dX1_fits_3 : decode cX1_fits 3 = .ok (.iconst 4, 1) := by decide +kernel
theorem dX1_fits_4 : decode cX1_fits 4 = .ok (.if_icmp .ge 31, 3) := by decide +kernel
theorem dX1_fits_7 : decode cX1_fits 7 = .ok (.iload_n 1, 1) := by decide +kernel
theorem dX1_fits_8 : decode cX1_fits 8 = .ok (.iload_n 3, 1) := by decide +kernel
theorem dX1_fits_9 : decode cX1_fits 9 = .ok (.invokestatic 26, 3) := by decide +kernel
theorem dX1_fits_12 : decode cX1_fits 12 = .ok (.ifCond .eq 17, 3) := by decide +kernel
theorem dX1_fits_15 : decode cX1_fits 15 = .ok (.aload_n 0, 1) := by decide +kernel
theorem dX1_fits_16 : decode cX1_fits 16 = .ok (.getfield 9, 3) := by decide +kernel
theorem dX1_fits_19 : decode cX1_fits 19 = .ok (.iload_n 3, 1) := by decide +kernel
theorem dX1_fits_20 : decode cX1_fits 20 = .ok (.iaload, 1) := by decide +kernel
theorem dX1_fits_21 : decode cX1_fits 21 = .ok (.aload_n 2, 1) := by decide +kernel
theorem dX1_fits_22 : decode cX1_fits 22 = .ok (.iload_n 3, 1) := by decide +kernel
theorem dX1_fits_23 : decode cX1_fits 23 = .ok (.iaload, 1) := by decide +kernel
theorem dX1_fits_24 : decode cX1_fits 24 = .ok (.if_icmp .eq 5, 3) := by decide +kernel
theorem dX1_fits_27 : decode cX1_fits 27 = .ok (.iconst 0, 1) := by decide +kernel
theorem dX1_fits_28 : decode cX1_fits 28 = .ok (.ireturn, 1) := by decide +kernel
theorem dX1_fits_29 : decode cX1_fits 29 = .ok (.iinc 3 1, 3) := by decide +kernel
theorem dX1_fits_32 : decode cX1_fits 32 = .ok (.goto (-30), 3) := by decide +kernel
theorem dX1_fits_35 : decode cX1_fits 35 = .ok (.iconst 1, 1) := by decide +kernel
theorem dX1_fits_36 : decode cX1_fits 36 = .ok (.ireturn, 1) := by decide +kernel
theorem i9wsX1_fits_0 : ∀ w ∈ ([.fieldLink RX1 9 "FactKeeper$Fact" "columns" "[I", .static yX11_isIn, .initialized RX11, .code yX11_isIn cX11_isIn 2 (some .boolean)] : List Cond), w ∈ wsX1_fits := fun _ h => (List.mem_cons_of_mem _ (List.mem_append_left _ h))
set_option maxRecDepth 20000 in
theorem ggX1_fits_X11_isIn : GoodIn wsX1_fits wsX11_isIn := (gin_c (mem_at i9wsX1_fits_0 3 rfl) rfl gin_n)
set_option maxRecDepth 20000 in
theorem gX1_fits_X11_isIn_n26 : GoodIn wsX1_fits (wsX11_isIn) := ggX1_fits_X11_isIn
set_option maxHeartbeats 4000000 in
set_option maxRecDepth 100000 in
theorem T_X1_fits (l : Launch) (hl : l.stackTraces = false) (D : va_G) (cA : Nat → ClassId) {l0 : Option Nat} {l1 : Int32} {l2 : Option Nat} {x : HS} {Q : Int32 → HS → Prop} {X : String → HS → Prop} (h : w_X1_fits l0 l1 l2 x Q X) : YI l yX1_fits wsX1_fits 1 21 D cA [.q l0, .i l1, .q l2] x Q X := by
  refine YI.of (cc := cX1_fits) (maxL := 4) (ret := (some .boolean)) hl (by decide) rfl rfl (fun g B fr => ?_)
  have o := B.o
  have hb := B.hb
  have hts := B.hts
  have hown : g.s.vm.findClass RX1 = some g.m.cls := B.hown
  have in1 : ∀ w ∈ u_ws RX1 TX1 7, w ∈ wsX1_fits := fun w h => (List.mem_cons_of_mem _ (List.mem_append_right _ h))
  unfold w_X1_fits at h
  show KW g 4 0 [(0, .q l0), (1, .i l1), (2, .q l2)] [] x
  refine k_iconst (v := 0) o hb dX1_fits_0 (by decide) ?_
  refine k_istore_n o hb dX1_fits_1 rfl rfl ?_
  refine KW.sub [1, 2, 3, 0] rfl ?_
  refine wLoop_elim (M := fun (v4 : Int32) (x3 : HS) => KW g 4 2 [(0, .q l0), (1, .i l1), (2, .q l2), (3, .i v4)] [] x3) h ?_
  intro v4 x3 again1 ih2 h
  refine k_iload_n o hb dX1_fits_2 rfl 3 rfl ?_
  refine k_iconst (v := 4) o hb dX1_fits_3 (by decide) ?_
  refine k_icmp_ge (tgt := 35) o hb dX1_fits_4 (by decide) h (fun h => ?_) (fun h => ?_)
  · skip
    refine k_iconst (v := 1) o hb dX1_fits_35 (by decide) ?_
    exact k_zret o hb B.hr fr dX1_fits_36 h
  · skip
    refine k_iload_n o hb dX1_fits_7 rfl 1 rfl ?_
    refine k_iload_n o hb dX1_fits_8 rfl 3 rfl ?_
    refine k_run_i o (fun _ _ q => q.elim) (k_runSN (host := RX11) o hb B.hml hown hts (T_X11_isIn g.l o.hl g.D g.cA h) yX_no ⟨va_cnB 2 hts gX1_fits_X11_isIn_n26 rfl rfl rfl o.hZ.2.2.1.2.2.2.2.2.2.1 (hts (.initialized RX11) (by decide +kernel)) (by decide +kernel) ⟨yle B.hR1 rfl, yle B.hR2 rfl⟩, hts (.static yX11_isIn) (by decide +kernel), trivial⟩ rfl rfl (Nat.le_of_ble_eq_true rfl) dX1_fits_9) (fun v6 x5 h => ?_)
    refine wJoin_elim (M := fun K => ∀  (x8 : HS), K  x8 → KW g 4 29 [(0, .q l0), (1, .i l1), (2, .q l2), (3, .i v4)] [] x8) h ?_ (fun j7 hj7 h => ?_)
    · skip
      intro  x8 h
      refine k_iinc (w := 1) o hb dX1_fits_29 3 rfl (by decide) rfl ?_
      refine k_goto (tgt := 2) o hb dX1_fits_32 (by decide) ?_
      exact KW.sub [1, 2, 3, 0] rfl (ih2 (v4 + 1) x8 h)
    · skip
      refine k_if_eq (tgt := 29) o hb dX1_fits_12 (by decide) h (fun h => ?_) (fun h => ?_)
      · skip
        exact KW.sub [0, 1, 2, 3] rfl (hj7 x5 h)
      · skip
        refine k_aload_n o hb dX1_fits_15 rfl 0 rfl ?_
        refine k_getF (C := RX1) (T := TX1) (N := 7) o hb hts in1 hown rfl (by decide) 0 (by decide) rfl (hts (.fieldLink RX1 9 "FactKeeper$Fact" "columns" "[I") (by decide +kernel)) (fun _ h9 => h9) dX1_fits_16 h (fun v9 h => ?_)
        refine k_iload_n o hb dX1_fits_19 rfl 3 rfl ?_
        refine k_iald o hb dX1_fits_20 h (fun v10 h => ?_)
        refine k_aload_n o hb dX1_fits_21 rfl 2 rfl ?_
        refine k_iload_n o hb dX1_fits_22 rfl 3 rfl ?_
        refine k_iald o hb dX1_fits_23 h (fun v11 h => ?_)
        refine k_icmp_eq (tgt := 29) o hb dX1_fits_24 (by decide) h (fun h => ?_) (fun h => ?_)
        · skip
          exact KW.sub [0, 1, 2, 3] rfl (hj7 x5 h)
        · skip
          refine k_iconst (v := 0) o hb dX1_fits_27 (by decide) ?_
          exact k_zret o hb B.hr fr dX1_fits_28 h
theorem dX2_init_0 : decode cX2_init 0 = .ok (.aload_n 0, 1) := by decide +kernel
theorem dX2_init_1 : decode cX2_init 1 = .ok (.invokespecial 3, 3) := by decide +kernel
theorem dX2_init_4 : decode cX2_init 4 = .ok (.aload_n 0, 1) := by decide +kernel
theorem dX2_init_5 : decode cX2_init 5 = .ok (.iconst 4, 1) := by decide +kernel
theorem dX2_init_6 : decode cX2_init 6 = .ok (.newarray .int, 2) := by decide +kernel
theorem dX2_init_8 : decode cX2_init 8 = .ok (.putfield 9, 3) := by decide +kernel
theorem dX2_init_11 : decode cX2_init 11 = .ok (.aload_n 0, 1) := by decide +kernel
theorem dX2_init_12 : decode cX2_init 12 = .ok (.iconst 4, 1) := by decide +kernel
theorem dX2_init_13 : decode cX2_init 13 = .ok (.newarray .int, 2) := by decide +kernel
theorem dX2_init_15 : decode cX2_init 15 = .ok (.putfield 15, 3) := by decide +kernel
theorem dX2_init_18 : decode cX2_init 18 = .ok (.return_, 1) := by decide +kernel
set_option maxHeartbeats 4000000 in
set_option maxRecDepth 100000 in
theorem T_X2_init (l : Launch) (hl : l.stackTraces = false) (D : va_G) (cA : Nat → ClassId) {l0 : Option Nat} {x : HS} {Q : HS → Prop} {X : String → HS → Prop} (h : w_X2_init l0 x Q X) : YV l yX2_init wsX2_init 1 12 D cA [.q l0] x Q X := by
  refine YV.of (cc := cX2_init) (maxL := 1) (ret := none) hl (by decide) rfl rfl (fun g B fr => ?_)
  have o := B.o
  have hb := B.hb
  have hts := B.hts
  have hown : g.s.vm.findClass RX2 = some g.m.cls := B.hown
  have in2 : ∀ w ∈ u_ws RX2 TX2 6, w ∈ wsX2_init := fun w h => (List.mem_cons_of_mem _ (List.mem_append_right _ h))
  unfold w_X2_init at h
  show KW g 1 0 [(0, .q l0)] [] x
  refine k_aload_n o hb dX2_init_0 rfl 0 rfl ?_
  refine k_objInit o hb B.hml hown (hts (.methodLink RX2 3 objectInit) (by decide +kernel)) (hts (.instanceMethod objectInit) (by decide +kernel)) (hts (.code objectInit ⟨#[0xb1]⟩ 1 none) (by decide +kernel)) (yle B.hR1 rfl) (yle B.hR2 rfl) dX2_init_1 h.1 ?_
  have h := h.2
  refine k_aload_n o hb dX2_init_4 rfl 0 rfl ?_
  refine k_iconst (v := 4) o hb dX2_init_5 (by decide) ?_
  refine k_newJ (atype := .int) (ty := .int) (kd := 20) (t0 := 0) o hb (hts (.arrayClass .int) (by decide +kernel)) rfl (by decide) (by decide) rfl (fun _ _ => rfl) (by decide) dX2_init_6 h (fun q1 x2 h => ?_)
  refine k_putFF (C := RX2) (T := TX2) (N := 6) (ty := (tyX2 0)) o hb hts in2 tyX2 tyX2_ok nmX2 hown rfl (by decide) 0 (by decide) rfl (hts (.fieldLink RX2 9 "FactKeeper$Goal" "kinds" "[I") (by decide +kernel)) (fun _ h9 => h9) rfl B.hnm rfl (by decide +kernel) (fun r => by cases r <;> rfl) (fun r => by cases r <;> rfl) dX2_init_8 h (fun x3 h => ?_)
  refine k_aload_n o hb dX2_init_11 rfl 0 rfl ?_
  refine k_iconst (v := 4) o hb dX2_init_12 (by decide) ?_
  refine k_newJ (atype := .int) (ty := .int) (kd := 20) (t0 := 0) o hb (hts (.arrayClass .int) (by decide +kernel)) rfl (by decide) (by decide) rfl (fun _ _ => rfl) (by decide) dX2_init_13 h (fun q4 x5 h => ?_)
  refine k_putFF (C := RX2) (T := TX2) (N := 6) (ty := (tyX2 1)) o hb hts in2 tyX2 tyX2_ok nmX2 hown rfl (by decide) 1 (by decide) rfl (hts (.fieldLink RX2 15 "FactKeeper$Goal" "args" "[I") (by decide +kernel)) (fun _ h9 => h9) rfl B.hnm rfl (by decide +kernel) (fun r => by cases r <;> rfl) (fun r => by cases r <;> rfl) dX2_init_15 h (fun x6 h => ?_)
  exact k_vret o hb B.hr fr dX2_init_18 h
theorem dX3_init_0 : decode cX3_init 0 = .ok (.aload_n 0, 1) := by decide +kernel
theorem dX3_init_1 : decode cX3_init 1 = .ok (.invokespecial 3, 3) := by decide +kernel
theorem dX3_init_4 : decode cX3_init 4 = .ok (.aload_n 0, 1) := by decide +kernel
theorem dX3_init_5 : decode cX3_init 5 = .ok (.sipush 6000, 3) := by decide +kernel
theorem dX3_init_8 : decode cX3_init 8 = .ok (.anewarray 9, 3) := by decide +kernel
theorem dX3_init_11 : decode cX3_init 11 = .ok (.putfield 11, 3) := by decide +kernel
theorem dX3_init_14 : decode cX3_init 14 = .ok (.aload_n 0, 1) := by decide +kernel
theorem dX3_init_15 : decode cX3_init 15 = .ok (.sipush 6000, 3) := by decide +kernel
theorem dX3_init_18 : decode cX3_init 18 = .ok (.newarray .boolean, 2) := by decide +kernel
theorem dX3_init_20 : decode cX3_init 20 = .ok (.putfield 17, 3) := by decide +kernel
theorem dX3_init_23 : decode cX3_init 23 = .ok (.aload_n 0, 1) := by decide +kernel
theorem dX3_init_24 : decode cX3_init 24 = .ok (.bipush 8, 2) := by decide +kernel
theorem dX3_init_26 : decode cX3_init 26 = .ok (.newarray .int, 2) := by decide +kernel
theorem dX3_init_28 : decode cX3_init 28 = .ok (.putfield 21, 3) := by decide +kernel
theorem dX3_init_31 : decode cX3_init 31 = .ok (.return_, 1) := by decide +kernel
set_option maxHeartbeats 4000000 in
set_option maxRecDepth 100000 in
theorem T_X3_init (l : Launch) (hl : l.stackTraces = false) (D : va_G) (cA : Nat → ClassId) {l0 : Option Nat} {x : HS} {Q : HS → Prop} {X : String → HS → Prop} (h : w_X3_init l0 x Q X) : YV l yX3_init wsX3_init 1 12 D cA [.q l0] x Q X := by
  refine YV.of (cc := cX3_init) (maxL := 1) (ret := none) hl (by decide) rfl rfl (fun g B fr => ?_)
  have o := B.o
  have hb := B.hb
  have hts := B.hts
  have hown : g.s.vm.findClass RX3 = some g.m.cls := B.hown
  have in3 : ∀ w ∈ u_ws RX3 TX3 5, w ∈ wsX3_init := fun w h => (List.mem_cons_of_mem _ (List.mem_append_right _ h))
  unfold w_X3_init at h
  show KW g 1 0 [(0, .q l0)] [] x
  refine k_aload_n o hb dX3_init_0 rfl 0 rfl ?_
  refine k_objInit o hb B.hml hown (hts (.methodLink RX3 3 objectInit) (by decide +kernel)) (hts (.instanceMethod objectInit) (by decide +kernel)) (hts (.code objectInit ⟨#[0xb1]⟩ 1 none) (by decide +kernel)) (yle B.hR1 rfl) (yle B.hR2 rfl) dX3_init_1 h.1 ?_
  have h := h.2
  refine k_aload_n o hb dX3_init_4 rfl 0 rfl ?_
  refine k_sipush (v := 6000) o hb dX3_init_5 (by decide) ?_
  refine k_newG (kd := 25) (t0 := 4) o hb hown (hts (.classLink RX3 9 RX1) (by decide +kernel)) o.hZ.2.2.2.2.1.2.1 (by decide) rfl dX3_init_8 h (fun q1 x2 h => ?_)
  refine k_putFF (C := RX3) (T := TX3) (N := 5) (ty := (tyX3 0)) o hb hts in3 tyX3 tyX3_ok nmX3 hown rfl (by decide) 0 (by decide) rfl (hts (.fieldLink RX3 11 "FactKeeper$History" "facts" "[LFactKeeper$Fact;") (by decide +kernel)) (fun _ h9 => h9) rfl B.hnm rfl (by decide +kernel) (fun r => by cases r <;> rfl) (fun r => by cases r <;> rfl) dX3_init_11 h (fun x3 h => ?_)
  refine k_aload_n o hb dX3_init_14 rfl 0 rfl ?_
  refine k_sipush (v := 6000) o hb dX3_init_15 (by decide) ?_
  refine k_newJ (atype := .boolean) (ty := .boolean) (kd := 22) (t0 := 2) o hb (hts (.arrayClass .boolean) (by decide +kernel)) rfl (by decide) (by decide) rfl (fun _ _ => rfl) (by decide) dX3_init_18 h (fun q4 x5 h => ?_)
  refine k_putFF (C := RX3) (T := TX3) (N := 5) (ty := (tyX3 1)) o hb hts in3 tyX3 tyX3_ok nmX3 hown rfl (by decide) 1 (by decide) rfl (hts (.fieldLink RX3 17 "FactKeeper$History" "went" "[Z") (by decide +kernel)) (fun _ h9 => h9) rfl B.hnm rfl (by decide +kernel) (fun r => by cases r <;> rfl) (fun r => by cases r <;> rfl) dX3_init_20 h (fun x6 h => ?_)
  refine k_aload_n o hb dX3_init_23 rfl 0 rfl ?_
  refine k_bipush (v := 8) o hb dX3_init_24 (by decide) ?_
  refine k_newJ (atype := .int) (ty := .int) (kd := 20) (t0 := 0) o hb (hts (.arrayClass .int) (by decide +kernel)) rfl (by decide) (by decide) rfl (fun _ _ => rfl) (by decide) dX3_init_26 h (fun q7 x8 h => ?_)
  refine k_putFF (C := RX3) (T := TX3) (N := 5) (ty := (tyX3 2)) o hb hts in3 tyX3 tyX3_ok nmX3 hown rfl (by decide) 2 (by decide) rfl (hts (.fieldLink RX3 21 "FactKeeper$History" "marks" "[I") (by decide +kernel)) (fun _ h9 => h9) rfl B.hnm rfl (by decide +kernel) (fun r => by cases r <;> rfl) (fun r => by cases r <;> rfl) dX3_init_28 h (fun x9 h => ?_)
  exact k_vret o hb B.hr fr dX3_init_31 h
theorem dX3_note_0 : decode cX3_note 0 = .ok (.aload_n 0, 1) := by decide +kernel
theorem dX3_note_1 : decode cX3_note 1 = .ok (.getfield 25, 3) := by decide +kernel
theorem dX3_note_4 : decode cX3_note 4 = .ok (.ifCond .le 45, 3) := by decide +kernel
theorem dX3_note_7 : decode cX3_note 7 = .ok (.aload_n 0, 1) := by decide +kernel
theorem dX3_note_8 : decode cX3_note 8 = .ok (.getfield 29, 3) := by decide +kernel
theorem dX3_note_11 : decode cX3_note 11 = .ok (.aload_n 0, 1) := by decide +kernel
theorem dX3_note_12 : decode cX3_note 12 = .ok (.getfield 11, 3) := by decide +kernel
theorem dX3_note_15 : decode cX3_note 15 = .ok (.arraylength, 1) := by decide +kernel
theorem dX3_note_16 : decode cX3_note 16 = .ok (.if_icmp .ge 33, 3) := by decide +kernel
theorem dX3_note_19 : decode cX3_note 19 = .ok (.aload_n 0, 1) := by decide +kernel
theorem dX3_note_20 : decode cX3_note 20 = .ok (.getfield 11, 3) := by decide +kernel
theorem dX3_note_23 : decode cX3_note 23 = .ok (.aload_n 0, 1) := by decide +kernel
theorem dX3_note_24 : decode cX3_note 24 = .ok (.getfield 29, 3) := by decide +kernel
theorem dX3_note_27 : decode cX3_note 27 = .ok (.aload_n 1, 1) := by decide +kernel
theorem dX3_note_28 : decode cX3_note 28 = .ok (.aastore, 1) := by decide +kernel
theorem dX3_note_29 : decode cX3_note 29 = .ok (.aload_n 0, 1) := by decide +kernel
theorem dX3_note_30 : decode cX3_note 30 = .ok (.getfield 17, 3) := by decide +kernel
theorem dX3_note_33 : decode cX3_note 33 = .ok (.aload_n 0, 1) := by decide +kernel
theorem dX3_note_34 : decode cX3_note 34 = .ok (.getfield 29, 3) := by decide +kernel
theorem dX3_note_37 : decode cX3_note 37 = .ok (.iload_n 2, 1) := by decide +kernel
theorem dX3_note_38 : decode cX3_note 38 = .ok (.bastore, 1) := by decide +kernel
theorem dX3_note_39 : decode cX3_note 39 = .ok (.aload_n 0, 1) := by decide +kernel
theorem dX3_note_40 : decode cX3_note 40 = .ok (.dup, 1) := by decide +kernel
theorem dX3_note_41 : decode cX3_note 41 = .ok (.getfield 29, 3) := by decide +kernel
theorem dX3_note_44 : decode cX3_note 44 = .ok (.iconst 1, 1) := by decide +kernel
theorem dX3_note_45 : decode cX3_note 45 = .ok (.iadd, 1) := by decide +kernel
theorem dX3_note_46 : decode cX3_note 46 = .ok (.putfield 29, 3) := by decide +kernel
theorem dX3_note_49 : decode cX3_note 49 = .ok (.return_, 1) := by decide +kernel
set_option maxHeartbeats 4000000 in
set_option maxRecDepth 100000 in
theorem T_X3_note (l : Launch) (hl : l.stackTraces = false) (D : va_G) (cA : Nat → ClassId) {l0 : Option Nat} {l1 : Option Nat} {l2 : Int32} {x : HS} {Q : HS → Prop} {X : String → HS → Prop} (h : w_X3_note l0 l1 l2 x Q X) : YV l yX3_note wsX3_note 0 0 D cA [.q l0, .q l1, .i l2] x Q X := by
  refine YV.of (cc := cX3_note) (maxL := 3) (ret := none) hl (by decide) rfl rfl (fun g B fr => ?_)
  have o := B.o
  have hb := B.hb
  have hts := B.hts
  have hown : g.s.vm.findClass RX3 = some g.m.cls := B.hown
  have in3 : ∀ w ∈ u_ws RX3 TX3 5, w ∈ wsX3_note := fun w h => (List.mem_cons_of_mem _ (List.mem_append_right _ h))
  unfold w_X3_note at h
  show KW g 3 0 [(0, .q l0), (1, .q l1), (2, .i l2)] [] x
  refine k_aload_n o hb dX3_note_0 rfl 0 rfl ?_
  refine k_getI (C := RX3) (T := TX3) (N := 5) o hb hts in3 hown rfl (by decide) 4 (by decide) rfl (hts (.fieldLink RX3 25 "FactKeeper$History" "markCount" "I") (by decide +kernel)) (fun _ h9 => h9) dX3_note_1 h (fun v1 h => ?_)
  refine wJoin_elim (M := fun K => ∀  (x3 : HS), K  x3 → KW g 3 49 [] [] x3) h ?_ (fun j2 hj2 h => ?_)
  · skip
    intro  x3 h
    exact k_vret o hb B.hr fr dX3_note_49 h
  · skip
    refine k_if_le (tgt := 49) o hb dX3_note_4 (by decide) h (fun h => ?_) (fun h => ?_)
    · skip
      exact KW.sub [] rfl (hj2 x h)
    · skip
      refine k_aload_n o hb dX3_note_7 rfl 0 rfl ?_
      refine k_getI (C := RX3) (T := TX3) (N := 5) o hb hts in3 hown rfl (by decide) 3 (by decide) rfl (hts (.fieldLink RX3 29 "FactKeeper$History" "size" "I") (by decide +kernel)) (fun _ h9 => h9) dX3_note_8 h (fun v4 h => ?_)
      refine k_aload_n o hb dX3_note_11 rfl 0 rfl ?_
      refine k_getF (C := RX3) (T := TX3) (N := 5) o hb hts in3 hown rfl (by decide) 0 (by decide) rfl (hts (.fieldLink RX3 11 "FactKeeper$History" "facts" "[LFactKeeper$Fact;") (by decide +kernel)) (fun _ h9 => h9) dX3_note_12 h (fun v5 h => ?_)
      refine k_alen (kd := 25) (t0 := 4) o hb (by decide) rfl dX3_note_15 h (fun v6 h => ?_)
      refine k_icmp_ge (tgt := 49) o hb dX3_note_16 (by decide) h (fun h => ?_) (fun h => ?_)
      · skip
        exact KW.sub [] rfl (hj2 x h)
      · skip
        refine k_aload_n o hb dX3_note_19 rfl 0 rfl ?_
        refine k_getF (C := RX3) (T := TX3) (N := 5) o hb hts in3 hown rfl (by decide) 0 (by decide) rfl (hts (.fieldLink RX3 11 "FactKeeper$History" "facts" "[LFactKeeper$Fact;") (by decide +kernel)) (fun _ h9 => h9) dX3_note_20 h (fun v7 h => ?_)
        refine k_aload_n o hb dX3_note_23 rfl 0 rfl ?_
        refine k_getI (C := RX3) (T := TX3) (N := 5) o hb hts in3 hown rfl (by decide) 3 (by decide) rfl (hts (.fieldLink RX3 29 "FactKeeper$History" "size" "I") (by decide +kernel)) (fun _ h9 => h9) dX3_note_24 h (fun v8 h => ?_)
        refine k_aload_n o hb dX3_note_27 rfl 1 rfl ?_
        refine k_aast (kd := 25) (ci := 1) (t0 := 4) (rc := (RX1, TX1, 7)) o hb rfl (by decide) (by decide) rfl dX3_note_28 h (fun x9 h => ?_)
        refine k_aload_n o hb dX3_note_29 rfl 0 rfl ?_
        refine k_getF (C := RX3) (T := TX3) (N := 5) o hb hts in3 hown rfl (by decide) 1 (by decide) rfl (hts (.fieldLink RX3 17 "FactKeeper$History" "went" "[Z") (by decide +kernel)) (fun _ h9 => h9) dX3_note_30 h (fun v10 h => ?_)
        refine k_aload_n o hb dX3_note_33 rfl 0 rfl ?_
        refine k_getI (C := RX3) (T := TX3) (N := 5) o hb hts in3 hown rfl (by decide) 3 (by decide) rfl (hts (.fieldLink RX3 29 "FactKeeper$History" "size" "I") (by decide +kernel)) (fun _ h9 => h9) dX3_note_34 h (fun v11 h => ?_)
        refine k_iload_n o hb dX3_note_37 rfl 2 rfl ?_
        refine k_zast o hb dX3_note_38 h (fun x12 h => ?_)
        refine k_aload_n o hb dX3_note_39 rfl 0 rfl ?_
        refine k_dup o hb dX3_note_40 ?_
        refine k_getI (C := RX3) (T := TX3) (N := 5) o hb hts in3 hown rfl (by decide) 3 (by decide) rfl (hts (.fieldLink RX3 29 "FactKeeper$History" "size" "I") (by decide +kernel)) (fun _ h9 => h9) dX3_note_41 h (fun v13 h => ?_)
        refine k_iconst (v := 1) o hb dX3_note_44 (by decide) ?_
        refine k_iadd o hb dX3_note_45 ?_
        refine k_putI (C := RX3) (T := TX3) (N := 5) (ty := .int) o hb hts in3 tyX3 tyX3_ok nmX3 hown rfl (by decide) 3 (by decide) rfl (hts (.fieldLink RX3 29 "FactKeeper$History" "size" "I") (by decide +kernel)) (fun _ h9 => h9) rfl (by decide +kernel) (fun _ => rfl) (fun _ => rfl) dX3_note_46 h (fun x14 h => ?_)
        exact KW.sub [] rfl (hj2 x14 h)
theorem dX3_makeMark_0 : decode cX3_makeMark 0 = .ok (.aload_n 0, 1) := by decide +kernel
theorem dX3_makeMark_1 : decode cX3_makeMark 1 = .ok (.getfield 25, 3) := by decide +kernel
theorem dX3_makeMark_4 : decode cX3_makeMark 4 = .ok (.bipush 8, 2) := by decide +kernel
theorem dX3_makeMark_6 : decode cX3_makeMark 6 = .ok (.if_icmp .lt 5, 3) := by decide +kernel
theorem dX3_makeMark_9 : decode cX3_makeMark 9 = .ok (.iconst 0, 1) := by decide +kernel
theorem dX3_makeMark_10 : decode cX3_makeMark 10 = .ok (.ireturn, 1) := by decide +kernel
theorem dX3_makeMark_11 : decode cX3_makeMark 11 = .ok (.aload_n 0, 1) := by decide +kernel
theorem dX3_makeMark_12 : decode cX3_makeMark 12 = .ok (.getfield 21, 3) := by decide +kernel
theorem dX3_makeMark_15 : decode cX3_makeMark 15 = .ok (.aload_n 0, 1) := by decide +kernel
theorem dX3_makeMark_16 : decode cX3_makeMark 16 = .ok (.getfield 25, 3) := by decide +kernel
theorem dX3_makeMark_19 : decode cX3_makeMark 19 = .ok (.aload_n 0, 1) := by decide +kernel
theorem dX3_makeMark_20 : decode cX3_makeMark 20 = .ok (.getfield 29, 3) := by decide +kernel
theorem dX3_makeMark_23 : decode cX3_makeMark 23 = .ok (.iastore, 1) := by decide +kernel
theorem dX3_makeMark_24 : decode cX3_makeMark 24 = .ok (.aload_n 0, 1) := by decide +kernel
theorem dX3_makeMark_25 : decode cX3_makeMark 25 = .ok (.dup, 1) := by decide +kernel
theorem dX3_makeMark_26 : decode cX3_makeMark 26 = .ok (.getfield 25, 3) := by decide +kernel
theorem dX3_makeMark_29 : decode cX3_makeMark 29 = .ok (.iconst 1, 1) := by decide +kernel
theorem dX3_makeMark_30 : decode cX3_makeMark 30 = .ok (.iadd, 1) := by decide +kernel
theorem dX3_makeMark_31 : decode cX3_makeMark 31 = .ok (.putfield 25, 3) := by decide +kernel
theorem dX3_makeMark_34 : decode cX3_makeMark 34 = .ok (.iconst 1, 1) := by decide +kernel
theorem dX3_makeMark_35 : decode cX3_makeMark 35 = .ok (.ireturn, 1) := by decide +kernel
set_option maxHeartbeats 4000000 in
set_option maxRecDepth 100000 in
theorem T_X3_makeMark (l : Launch) (hl : l.stackTraces = false) (D : va_G) (cA : Nat → ClassId) {l0 : Option Nat} {x : HS} {Q : Int32 → HS → Prop} {X : String → HS → Prop} (h : w_X3_makeMark l0 x Q X) : YI l yX3_makeMark wsX3_makeMark 0 0 D cA [.q l0] x Q X := by
  refine YI.of (cc := cX3_makeMark) (maxL := 1) (ret := (some .boolean)) hl (by decide) rfl rfl (fun g B fr => ?_)
  have o := B.o
  have hb := B.hb
  have hts := B.hts
  have hown : g.s.vm.findClass RX3 = some g.m.cls := B.hown
  have in3 : ∀ w ∈ u_ws RX3 TX3 5, w ∈ wsX3_makeMark := fun w h => (List.mem_cons_of_mem _ (List.mem_append_right _ h))
  unfold w_X3_makeMark at h
  show KW g 1 0 [(0, .q l0)] [] x
  refine k_aload_n o hb dX3_makeMark_0 rfl 0 rfl ?_
  refine k_getI (C := RX3) (T := TX3) (N := 5) o hb hts in3 hown rfl (by decide) 4 (by decide) rfl (hts (.fieldLink RX3 25 "FactKeeper$History" "markCount" "I") (by decide +kernel)) (fun _ h9 => h9) dX3_makeMark_1 h (fun v1 h => ?_)
  refine k_bipush (v := 8) o hb dX3_makeMark_4 (by decide) ?_
  refine k_icmp_lt (tgt := 11) o hb dX3_makeMark_6 (by decide) h (fun h => ?_) (fun h => ?_)
  · skip
    refine k_aload_n o hb dX3_makeMark_11 rfl 0 rfl ?_
    refine k_getF (C := RX3) (T := TX3) (N := 5) o hb hts in3 hown rfl (by decide) 2 (by decide) rfl (hts (.fieldLink RX3 21 "FactKeeper$History" "marks" "[I") (by decide +kernel)) (fun _ h9 => h9) dX3_makeMark_12 h (fun v2 h => ?_)
    refine k_aload_n o hb dX3_makeMark_15 rfl 0 rfl ?_
    refine k_getI (C := RX3) (T := TX3) (N := 5) o hb hts in3 hown rfl (by decide) 4 (by decide) rfl (hts (.fieldLink RX3 25 "FactKeeper$History" "markCount" "I") (by decide +kernel)) (fun _ h9 => h9) dX3_makeMark_16 h (fun v3 h => ?_)
    refine k_aload_n o hb dX3_makeMark_19 rfl 0 rfl ?_
    refine k_getI (C := RX3) (T := TX3) (N := 5) o hb hts in3 hown rfl (by decide) 3 (by decide) rfl (hts (.fieldLink RX3 29 "FactKeeper$History" "size" "I") (by decide +kernel)) (fun _ h9 => h9) dX3_makeMark_20 h (fun v4 h => ?_)
    refine k_iast o hb dX3_makeMark_23 h (fun x5 h => ?_)
    refine k_aload_n o hb dX3_makeMark_24 rfl 0 rfl ?_
    refine k_dup o hb dX3_makeMark_25 ?_
    refine k_getI (C := RX3) (T := TX3) (N := 5) o hb hts in3 hown rfl (by decide) 4 (by decide) rfl (hts (.fieldLink RX3 25 "FactKeeper$History" "markCount" "I") (by decide +kernel)) (fun _ h9 => h9) dX3_makeMark_26 h (fun v6 h => ?_)
    refine k_iconst (v := 1) o hb dX3_makeMark_29 (by decide) ?_
    refine k_iadd o hb dX3_makeMark_30 ?_
    refine k_putI (C := RX3) (T := TX3) (N := 5) (ty := .int) o hb hts in3 tyX3 tyX3_ok nmX3 hown rfl (by decide) 4 (by decide) rfl (hts (.fieldLink RX3 25 "FactKeeper$History" "markCount" "I") (by decide +kernel)) (fun _ h9 => h9) rfl (by decide +kernel) (fun _ => rfl) (fun _ => rfl) dX3_makeMark_31 h (fun x7 h => ?_)
    refine k_iconst (v := 1) o hb dX3_makeMark_34 (by decide) ?_
    exact k_zret o hb B.hr fr dX3_makeMark_35 h
  · skip
    refine k_iconst (v := 0) o hb dX3_makeMark_9 (by decide) ?_
    exact k_zret o hb B.hr fr dX3_makeMark_10 h
theorem dX3_dropMark_0 : decode cX3_dropMark 0 = .ok (.aload_n 0, 1) := by decide +kernel
theorem dX3_dropMark_1 : decode cX3_dropMark 1 = .ok (.getfield 25, 3) := by decide +kernel
theorem dX3_dropMark_4 : decode cX3_dropMark 4 = .ok (.ifCond .ne 8, 3) := by decide +kernel
theorem dX3_dropMark_7 : decode cX3_dropMark 7 = .ok (.aload_n 0, 1) := by decide +kernel
theorem dX3_dropMark_8 : decode cX3_dropMark 8 = .ok (.getfield 29, 3) := by decide +kernel
theorem dX3_dropMark_11 : decode cX3_dropMark 11 = .ok (.ireturn, 1) := by decide +kernel
theorem dX3_dropMark_12 : decode cX3_dropMark 12 = .ok (.aload_n 0, 1) := by decide +kernel
theorem dX3_dropMark_13 : decode cX3_dropMark 13 = .ok (.dup, 1) := by decide +kernel
theorem dX3_dropMark_14 : decode cX3_dropMark 14 = .ok (.getfield 25, 3) := by decide +kernel
theorem dX3_dropMark_17 : decode cX3_dropMark 17 = .ok (.iconst 1, 1) := by decide +kernel
theorem dX3_dropMark_18 : decode cX3_dropMark 18 = .ok (.isub, 1) := by decide +kernel
theorem dX3_dropMark_19 : decode cX3_dropMark 19 = .ok (.putfield 25, 3) := by decide +kernel
theorem dX3_dropMark_22 : decode cX3_dropMark 22 = .ok (.aload_n 0, 1) := by decide +kernel
theorem dX3_dropMark_23 : decode cX3_dropMark 23 = .ok (.getfield 21, 3) := by decide +kernel
theorem dX3_dropMark_26 : decode cX3_dropMark 26 = .ok (.aload_n 0, 1) := by decide +kernel
theorem dX3_dropMark_27 : decode cX3_dropMark 27 = .ok (.getfield 25, 3) := by decide +kernel
theorem dX3_dropMark_30 : decode cX3_dropMark 30 = .ok (.iaload, 1) := by decide +kernel
theorem dX3_dropMark_31 : decode cX3_dropMark 31 = .ok (.ireturn, 1) := by decide +kernel
set_option maxHeartbeats 4000000 in
set_option maxRecDepth 100000 in
theorem T_X3_dropMark (l : Launch) (hl : l.stackTraces = false) (D : va_G) (cA : Nat → ClassId) {l0 : Option Nat} {x : HS} {Q : Int32 → HS → Prop} {X : String → HS → Prop} (h : w_X3_dropMark l0 x Q X) : YI l yX3_dropMark wsX3_dropMark 0 0 D cA [.q l0] x Q X := by
  refine YI.of (cc := cX3_dropMark) (maxL := 1) (ret := (some .int)) hl (by decide) rfl rfl (fun g B fr => ?_)
  have o := B.o
  have hb := B.hb
  have hts := B.hts
  have hown : g.s.vm.findClass RX3 = some g.m.cls := B.hown
  have in3 : ∀ w ∈ u_ws RX3 TX3 5, w ∈ wsX3_dropMark := fun w h => (List.mem_cons_of_mem _ (List.mem_append_right _ h))
  unfold w_X3_dropMark at h
  show KW g 1 0 [(0, .q l0)] [] x
  refine k_aload_n o hb dX3_dropMark_0 rfl 0 rfl ?_
  refine k_getI (C := RX3) (T := TX3) (N := 5) o hb hts in3 hown rfl (by decide) 4 (by decide) rfl (hts (.fieldLink RX3 25 "FactKeeper$History" "markCount" "I") (by decide +kernel)) (fun _ h9 => h9) dX3_dropMark_1 h (fun v1 h => ?_)
  refine k_if_ne (tgt := 12) o hb dX3_dropMark_4 (by decide) h (fun h => ?_) (fun h => ?_)
  · skip
    refine k_aload_n o hb dX3_dropMark_7 rfl 0 rfl ?_
    refine k_getI (C := RX3) (T := TX3) (N := 5) o hb hts in3 hown rfl (by decide) 3 (by decide) rfl (hts (.fieldLink RX3 29 "FactKeeper$History" "size" "I") (by decide +kernel)) (fun _ h9 => h9) dX3_dropMark_8 h (fun v2 h => ?_)
    exact k_iret o hb B.hr fr dX3_dropMark_11 h
  · skip
    refine k_aload_n o hb dX3_dropMark_12 rfl 0 rfl ?_
    refine k_dup o hb dX3_dropMark_13 ?_
    refine k_getI (C := RX3) (T := TX3) (N := 5) o hb hts in3 hown rfl (by decide) 4 (by decide) rfl (hts (.fieldLink RX3 25 "FactKeeper$History" "markCount" "I") (by decide +kernel)) (fun _ h9 => h9) dX3_dropMark_14 h (fun v3 h => ?_)
    refine k_iconst (v := 1) o hb dX3_dropMark_17 (by decide) ?_
    refine k_isub o hb dX3_dropMark_18 ?_
    refine k_putI (C := RX3) (T := TX3) (N := 5) (ty := .int) o hb hts in3 tyX3 tyX3_ok nmX3 hown rfl (by decide) 4 (by decide) rfl (hts (.fieldLink RX3 25 "FactKeeper$History" "markCount" "I") (by decide +kernel)) (fun _ h9 => h9) rfl (by decide +kernel) (fun _ => rfl) (fun _ => rfl) dX3_dropMark_19 h (fun x4 h => ?_)
    refine k_aload_n o hb dX3_dropMark_22 rfl 0 rfl ?_
    refine k_getF (C := RX3) (T := TX3) (N := 5) o hb hts in3 hown rfl (by decide) 2 (by decide) rfl (hts (.fieldLink RX3 21 "FactKeeper$History" "marks" "[I") (by decide +kernel)) (fun _ h9 => h9) dX3_dropMark_23 h (fun v5 h => ?_)
    refine k_aload_n o hb dX3_dropMark_26 rfl 0 rfl ?_
    refine k_getI (C := RX3) (T := TX3) (N := 5) o hb hts in3 hown rfl (by decide) 4 (by decide) rfl (hts (.fieldLink RX3 25 "FactKeeper$History" "markCount" "I") (by decide +kernel)) (fun _ h9 => h9) dX3_dropMark_27 h (fun v6 h => ?_)
    refine k_iald o hb dX3_dropMark_30 h (fun v7 h => ?_)
    exact k_iret o hb B.hr fr dX3_dropMark_31 h
theorem dX3_goneSinceMark_0 : decode cX3_goneSinceMark 0 = .ok (.iconst 0, 1) := by decide +kernel
theorem dX3_goneSinceMark_1 : decode cX3_goneSinceMark 1 = .ok (.istore_n 1, 1) := by decide +kernel
theorem dX3_goneSinceMark_2 : decode cX3_goneSinceMark 2 = .ok (.aload_n 0, 1) := by decide +kernel
theorem dX3_goneSinceMark_3 : decode cX3_goneSinceMark 3 = .ok (.getfield 25, 3) := by decide +kernel
theorem dX3_goneSinceMark_6 : decode cX3_goneSinceMark 6 = .ok (.ifCond .le 46, 3) := by decide +kernel
theorem dX3_goneSinceMark_9 : decode cX3_goneSinceMark 9 = .ok (.aload_n 0, 1) := by decide +kernel
theorem dX3_goneSinceMark_10 : decode cX3_goneSinceMark 10 = .ok (.getfield 21, 3) := by decide +kernel
theorem dX3_goneSinceMark_13 : decode cX3_goneSinceMark 13 = .ok (.aload_n 0, 1) := by decide +kernel
theorem dX3_goneSinceMark_14 : decode cX3_goneSinceMark 14 = .ok (.getfield 25, 3) := by decide +kernel
theorem dX3_goneSinceMark_17 : decode cX3_goneSinceMark 17 = .ok (.iconst 1, 1) := by decide +kernel
theorem dX3_goneSinceMark_18 : decode cX3_goneSinceMark 18 = .ok (.isub, 1) := by decide +kernel
theorem dX3_goneSinceMark_19 : decode cX3_goneSinceMark 19 = .ok (.iaload, 1) := by decide +kernel
theorem dX3_goneSinceMark_20 : decode cX3_goneSinceMark 20 = .ok (.istore_n 2, 1) := by decide +kernel
theorem dX3_goneSinceMark_21 : decode cX3_goneSinceMark 21 = .ok (.iload_n 2, 1) := by decide +kernel
theorem dX3_goneSinceMark_22 : decode cX3_goneSinceMark 22 = .ok (.aload_n 0, 1) := by decide +kernel
theorem dX3_goneSinceMark_23 : decode cX3_goneSinceMark 23 = .ok (.getfield 29, 3) := by decide +kernel
theorem dX3_goneSinceMark_26 : decode cX3_goneSinceMark 26 = .ok (.if_icmp .ge 26, 3) := by decide +kernel
theorem dX3_goneSinceMark_29 : decode cX3_goneSinceMark 29 = .ok (.iload_n 1, 1) := by decide +kernel
theorem dX3_goneSinceMark_30 : decode cX3_goneSinceMark 30 = .ok (.aload_n 0, 1) := by decide +kernel
theorem dX3_goneSinceMark_31 : decode cX3_goneSinceMark 31 = .ok (.getfield 17, 3) := by decide +kernel
theorem dX3_goneSinceMark_34 : decode cX3_goneSinceMark 34 = .ok (.iload_n 2, 1) := by decide +kernel
theorem dX3_goneSinceMark_35 : decode cX3_goneSinceMark 35 = .ok (.baload, 1) := by decide +kernel
theorem dX3_goneSinceMark_36 : decode cX3_goneSinceMark 36 = .ok (.ifCond .eq 7, 3) := by decide +kernel
theorem dX3_goneSinceMark_39 : decode cX3_goneSinceMark 39 = .ok (.iconst 1, 1) := by decide +kernel
theorem dX3_goneSinceMark_40 : decode cX3_goneSinceMark 40 = .ok (.goto 4, 3) := by decide +kernel
theorem dX3_goneSinceMark_43 : decode cX3_goneSinceMark 43 = .ok (.iconst 0, 1) := by decide +kernel
theorem dX3_goneSinceMark_44 : decode cX3_goneSinceMark 44 = .ok (.iadd, 1) := by decide +kernel
theorem dX3_goneSinceMark_45 : decode cX3_goneSinceMark 45 = .ok (.istore_n 1, 1) := by decide +kernel
theorem dX3_goneSinceMark_46 : decode cX3_goneSinceMark 46 = .ok (.iinc 2 1, 3) := by decide +kernel
theorem dX3_goneSinceMark_49 : decode cX3_goneSinceMark 49 = .ok (.goto (-28), 3) := by decide +kernel
theorem dX3_goneSinceMark_52 : decode cX3_goneSinceMark 52 = .ok (.iload_n 1, 1) := by decide +kernel
theorem dX3_goneSinceMark_53 : decode cX3_goneSinceMark 53 = .ok (.ireturn, 1) := by decide +kernel
set_option maxHeartbeats 4000000 in
set_option maxRecDepth 100000 in
theorem T_X3_goneSinceMark (l : Launch) (hl : l.stackTraces = false) (D : va_G) (cA : Nat → ClassId) {l0 : Option Nat} {x : HS} {Q : Int32 → HS → Prop} {X : String → HS → Prop} (h : w_X3_goneSinceMark l0 x Q X) : YI l yX3_goneSinceMark wsX3_goneSinceMark 0 0 D cA [.q l0] x Q X := by
  refine YI.of (cc := cX3_goneSinceMark) (maxL := 3) (ret := (some .int)) hl (by decide) rfl rfl (fun g B fr => ?_)
  have o := B.o
  have hb := B.hb
  have hts := B.hts
  have hown : g.s.vm.findClass RX3 = some g.m.cls := B.hown
  have in3 : ∀ w ∈ u_ws RX3 TX3 5, w ∈ wsX3_goneSinceMark := fun w h => (List.mem_cons_of_mem _ (List.mem_append_right _ h))
  unfold w_X3_goneSinceMark at h
  show KW g 3 0 [(0, .q l0)] [] x
  refine k_iconst (v := 0) o hb dX3_goneSinceMark_0 (by decide) ?_
  refine k_istore_n o hb dX3_goneSinceMark_1 rfl rfl ?_
  refine k_aload_n o hb dX3_goneSinceMark_2 rfl 1 rfl ?_
  refine k_getI (C := RX3) (T := TX3) (N := 5) o hb hts in3 hown rfl (by decide) 4 (by decide) rfl (hts (.fieldLink RX3 25 "FactKeeper$History" "markCount" "I") (by decide +kernel)) (fun _ h9 => h9) dX3_goneSinceMark_3 h (fun v1 h => ?_)
  refine wJoin_elim (M := fun K => ∀ (v4 : Int32) (x3 : HS), K v4 x3 → KW g 3 52 [(1, .i v4)] [] x3) h ?_ (fun j2 hj2 h => ?_)
  · skip
    intro v4 x3 h
    refine k_iload_n o hb dX3_goneSinceMark_52 rfl 0 rfl ?_
    exact k_iret o hb B.hr fr dX3_goneSinceMark_53 h
  · skip
    refine k_if_le (tgt := 52) o hb dX3_goneSinceMark_6 (by decide) h (fun h => ?_) (fun h => ?_)
    · skip
      exact KW.sub [0] rfl (hj2 0 x h)
    · skip
      refine k_aload_n o hb dX3_goneSinceMark_9 rfl 1 rfl ?_
      refine k_getF (C := RX3) (T := TX3) (N := 5) o hb hts in3 hown rfl (by decide) 2 (by decide) rfl (hts (.fieldLink RX3 21 "FactKeeper$History" "marks" "[I") (by decide +kernel)) (fun _ h9 => h9) dX3_goneSinceMark_10 h (fun v5 h => ?_)
      refine k_aload_n o hb dX3_goneSinceMark_13 rfl 1 rfl ?_
      refine k_getI (C := RX3) (T := TX3) (N := 5) o hb hts in3 hown rfl (by decide) 4 (by decide) rfl (hts (.fieldLink RX3 25 "FactKeeper$History" "markCount" "I") (by decide +kernel)) (fun _ h9 => h9) dX3_goneSinceMark_14 h (fun v6 h => ?_)
      refine k_iconst (v := 1) o hb dX3_goneSinceMark_17 (by decide) ?_
      refine k_isub o hb dX3_goneSinceMark_18 ?_
      refine k_iald o hb dX3_goneSinceMark_19 h (fun v7 h => ?_)
      refine k_istore_n o hb dX3_goneSinceMark_20 rfl rfl ?_
      refine KW.sub [2, 1, 0] rfl ?_
      refine wLoop_elim (M := fun (v11 : Int32 × Int32) (x10 : HS) => KW g 3 21 [(0, .q l0), (1, .i v11.1), (2, .i v11.2)] [] x10) h ?_
      intro v11 x10 again8 ih9 h
      refine k_iload_n o hb dX3_goneSinceMark_21 rfl 2 rfl ?_
      refine k_aload_n o hb dX3_goneSinceMark_22 rfl 0 rfl ?_
      refine k_getI (C := RX3) (T := TX3) (N := 5) o hb hts in3 hown rfl (by decide) 3 (by decide) rfl (hts (.fieldLink RX3 29 "FactKeeper$History" "size" "I") (by decide +kernel)) (fun _ h9 => h9) dX3_goneSinceMark_23 h (fun v12 h => ?_)
      refine k_icmp_ge (tgt := 52) o hb dX3_goneSinceMark_26 (by decide) h (fun h => ?_) (fun h => ?_)
      · skip
        exact KW.sub [1] rfl (hj2 v11.1 x10 h)
      · skip
        refine k_iload_n o hb dX3_goneSinceMark_29 rfl 1 rfl ?_
        refine k_aload_n o hb dX3_goneSinceMark_30 rfl 0 rfl ?_
        refine k_getF (C := RX3) (T := TX3) (N := 5) o hb hts in3 hown rfl (by decide) 1 (by decide) rfl (hts (.fieldLink RX3 17 "FactKeeper$History" "went" "[Z") (by decide +kernel)) (fun _ h9 => h9) dX3_goneSinceMark_31 h (fun v13 h => ?_)
        refine k_iload_n o hb dX3_goneSinceMark_34 rfl 2 rfl ?_
        refine k_zald o hb dX3_goneSinceMark_35 h (fun v14 h => ?_)
        refine wJoin_elim (M := fun K => ∀ (v17 : Int32) (x16 : HS), K v17 x16 → KW g 3 44 [(0, .q l0), (2, .i v11.2)] [.i v17, .i v11.1] x16) h ?_ (fun j15 hj15 h => ?_)
        · skip
          intro v17 x16 h
          refine k_iadd o hb dX3_goneSinceMark_44 ?_
          refine k_istore_n o hb dX3_goneSinceMark_45 rfl rfl ?_
          refine k_iinc (w := 1) o hb dX3_goneSinceMark_46 2 rfl (by decide) rfl ?_
          refine k_goto (tgt := 21) o hb dX3_goneSinceMark_49 (by decide) ?_
          exact KW.sub [2, 1, 0] rfl (ih9 ((v11.1 + v17), (v11.2 + 1)) x16 h)
        · skip
          refine k_if_eq (tgt := 43) o hb dX3_goneSinceMark_36 (by decide) h (fun h => ?_) (fun h => ?_)
          · skip
            refine k_iconst (v := 0) o hb dX3_goneSinceMark_43 (by decide) ?_
            exact KW.sub [0, 2] rfl (hj15 0 x10 h)
          · skip
            refine k_iconst (v := 1) o hb dX3_goneSinceMark_39 (by decide) ?_
            refine k_goto (tgt := 44) o hb dX3_goneSinceMark_40 (by decide) ?_
            exact KW.sub [0, 2] rfl (hj15 1 x10 h)
theorem dX3_forgetWithoutMarks_0 : decode cX3_forgetWithoutMarks 0 = .ok (.aload_n 0, 1) := by decide +kernel
theorem dX3_forgetWithoutMarks_1 : decode cX3_forgetWithoutMarks 1 = .ok (.getfield 25, 3) := by decide +kernel
theorem dX3_forgetWithoutMarks_4 : decode cX3_forgetWithoutMarks 4 = .ok (.ifCond .ne 8, 3) := by decide +kernel
theorem dX3_forgetWithoutMarks_7 : decode cX3_forgetWithoutMarks 7 = .ok (.aload_n 0, 1) := by decide +kernel
theorem dX3_forgetWithoutMarks_8 : decode cX3_forgetWithoutMarks 8 = .ok (.iconst 0, 1) := by decide +kernel
theorem dX3_forgetWithoutMarks_9 : decode cX3_forgetWithoutMarks 9 = .ok (.putfield 29, 3) := by decide +kernel
theorem dX3_forgetWithoutMarks_12 : decode cX3_forgetWithoutMarks 12 = .ok (.return_, 1) := by decide +kernel
set_option maxHeartbeats 4000000 in
set_option maxRecDepth 100000 in
theorem T_X3_forgetWithoutMarks (l : Launch) (hl : l.stackTraces = false) (D : va_G) (cA : Nat → ClassId) {l0 : Option Nat} {x : HS} {Q : HS → Prop} {X : String → HS → Prop} (h : w_X3_forgetWithoutMarks l0 x Q X) : YV l yX3_forgetWithoutMarks wsX3_forgetWithoutMarks 0 0 D cA [.q l0] x Q X := by
  refine YV.of (cc := cX3_forgetWithoutMarks) (maxL := 1) (ret := none) hl (by decide) rfl rfl (fun g B fr => ?_)
  have o := B.o
  have hb := B.hb
  have hts := B.hts
  have hown : g.s.vm.findClass RX3 = some g.m.cls := B.hown
  have in3 : ∀ w ∈ u_ws RX3 TX3 5, w ∈ wsX3_forgetWithoutMarks := fun w h => (List.mem_cons_of_mem _ (List.mem_append_right _ h))
  unfold w_X3_forgetWithoutMarks at h
  show KW g 1 0 [(0, .q l0)] [] x
  refine k_aload_n o hb dX3_forgetWithoutMarks_0 rfl 0 rfl ?_
  refine k_getI (C := RX3) (T := TX3) (N := 5) o hb hts in3 hown rfl (by decide) 4 (by decide) rfl (hts (.fieldLink RX3 25 "FactKeeper$History" "markCount" "I") (by decide +kernel)) (fun _ h9 => h9) dX3_forgetWithoutMarks_1 h (fun v1 h => ?_)
  refine wJoin_elim (M := fun K => ∀  (x3 : HS), K  x3 → KW g 1 12 [] [] x3) h ?_ (fun j2 hj2 h => ?_)
  · skip
    intro  x3 h
    exact k_vret o hb B.hr fr dX3_forgetWithoutMarks_12 h
  · skip
    refine k_if_ne (tgt := 12) o hb dX3_forgetWithoutMarks_4 (by decide) h (fun h => ?_) (fun h => ?_)
    · skip
      refine k_aload_n o hb dX3_forgetWithoutMarks_7 rfl 0 rfl ?_
      refine k_iconst (v := 0) o hb dX3_forgetWithoutMarks_8 (by decide) ?_
      refine k_putI (C := RX3) (T := TX3) (N := 5) (ty := .int) o hb hts in3 tyX3 tyX3_ok nmX3 hown rfl (by decide) 3 (by decide) rfl (hts (.fieldLink RX3 29 "FactKeeper$History" "size" "I") (by decide +kernel)) (fun _ h9 => h9) rfl (by decide +kernel) (fun _ => rfl) (fun _ => rfl) dX3_forgetWithoutMarks_9 h (fun x4 h => ?_)
      exact KW.sub [] rfl (hj2 x4 h)
    · skip
      exact KW.sub [] rfl (hj2 x h)
theorem dX4_init_0 : decode cX4_init 0 = .ok (.aload_n 0, 1) := by decide +kernel
theorem dX4_init_1 : decode cX4_init 1 = .ok (.invokespecial 3, 3) := by decide +kernel
theorem dX4_init_4 : decode cX4_init 4 = .ok (.aload_n 0, 1) := by decide +kernel
theorem dX4_init_5 : decode cX4_init 5 = .ok (.bipush 64, 2) := by decide +kernel
theorem dX4_init_7 : decode cX4_init 7 = .ok (.anewarray 9, 3) := by decide +kernel
theorem dX4_init_10 : decode cX4_init 10 = .ok (.putfield 11, 3) := by decide +kernel
theorem dX4_init_13 : decode cX4_init 13 = .ok (.aload_n 0, 1) := by decide +kernel
theorem dX4_init_14 : decode cX4_init 14 = .ok (.iload_n 1, 1) := by decide +kernel
theorem dX4_init_15 : decode cX4_init 15 = .ok (.putfield 17, 3) := by decide +kernel
theorem dX4_init_18 : decode cX4_init 18 = .ok (.return_, 1) := by decide +kernel
set_option maxHeartbeats 4000000 in
set_option maxRecDepth 100000 in
theorem T_X4_init (l : Launch) (hl : l.stackTraces = false) (D : va_G) (cA : Nat → ClassId) {l0 : Option Nat} {l1 : Int32} {x : HS} {Q : HS → Prop} {X : String → HS → Prop} (h : w_X4_init l0 l1 x Q X) : YV l yX4_init wsX4_init 1 12 D cA [.q l0, .i l1] x Q X := by
  refine YV.of (cc := cX4_init) (maxL := 2) (ret := none) hl (by decide) rfl rfl (fun g B fr => ?_)
  have o := B.o
  have hb := B.hb
  have hts := B.hts
  have hown : g.s.vm.findClass RX4 = some g.m.cls := B.hown
  have in4 : ∀ w ∈ u_ws RX4 TX4 2, w ∈ wsX4_init := fun w h => (List.mem_cons_of_mem _ (List.mem_append_right _ h))
  unfold w_X4_init at h
  show KW g 2 0 [(0, .q l0), (1, .i l1)] [] x
  refine k_aload_n o hb dX4_init_0 rfl 0 rfl ?_
  refine k_objInit o hb B.hml hown (hts (.methodLink RX4 3 objectInit) (by decide +kernel)) (hts (.instanceMethod objectInit) (by decide +kernel)) (hts (.code objectInit ⟨#[0xb1]⟩ 1 none) (by decide +kernel)) (yle B.hR1 rfl) (yle B.hR2 rfl) dX4_init_1 h.1 ?_
  have h := h.2
  refine k_aload_n o hb dX4_init_4 rfl 0 rfl ?_
  refine k_bipush (v := 64) o hb dX4_init_5 (by decide) ?_
  refine k_newG (kd := 29) (t0 := 8) o hb hown (hts (.classLink RX4 9 RX0) (by decide +kernel)) o.hZ.2.2.2.2.1.2.2.2.2.2 (by decide) rfl dX4_init_7 h (fun q1 x2 h => ?_)
  refine k_putFF (C := RX4) (T := TX4) (N := 2) (ty := (tyX4 1)) o hb hts in4 tyX4 tyX4_ok nmX4 hown rfl (by decide) 1 (by decide) rfl (hts (.fieldLink RX4 11 "FactKeeper$Index" "buckets" "[LFactKeeper$Chain;") (by decide +kernel)) (fun _ h9 => h9) rfl B.hnm rfl (by decide +kernel) (fun r => by cases r <;> rfl) (fun r => by cases r <;> rfl) dX4_init_10 h (fun x3 h => ?_)
  refine k_aload_n o hb dX4_init_13 rfl 0 rfl ?_
  refine k_iload_n o hb dX4_init_14 rfl 1 rfl ?_
  refine k_putIF (C := RX4) (T := TX4) (N := 2) (ty := .int) o hb hts in4 tyX4 tyX4_ok nmX4 hown rfl (by decide) 0 (by decide) rfl (hts (.fieldLink RX4 17 "FactKeeper$Index" "column" "I") (by decide +kernel)) (fun _ h9 => h9) rfl B.hnm rfl (by decide +kernel) (fun _ => rfl) (fun _ => rfl) dX4_init_15 h (fun x4 h => ?_)
  exact k_vret o hb B.hr fr dX4_init_18 h
theorem dX4_chainWith_0 : decode cX4_chainWith 0 = .ok (.aload_n 0, 1) := by decide +kernel
theorem dX4_chainWith_1 : decode cX4_chainWith 1 = .ok (.getfield 11, 3) := by decide +kernel
theorem dX4_chainWith_4 : decode cX4_chainWith 4 = .ok (.iload_n 1, 1) := by decide +kernel
theorem dX4_chainWith_5 : decode cX4_chainWith 5 = .ok (.bipush 63, 2) := by decide +kernel
theorem dX4_chainWith_7 : decode cX4_chainWith 7 = .ok (.iand, 1) := by decide +kernel
theorem dX4_chainWith_8 : decode cX4_chainWith 8 = .ok (.aaload, 1) := by decide +kernel
theorem dX4_chainWith_9 : decode cX4_chainWith 9 = .ok (.astore_n 2, 1) := by decide +kernel
theorem dX4_chainWith_10 : decode cX4_chainWith 10 = .ok (.aload_n 2, 1) := by decide +kernel
theorem dX4_chainWith_11 : decode cX4_chainWith 11 = .ok (.ifnull 19, 3) := by decide +kernel
theorem dX4_chainWith_14 : decode cX4_chainWith 14 = .ok (.aload_n 2, 1) := by decide +kernel
theorem dX4_chainWith_15 : decode cX4_chainWith 15 = .ok (.getfield 21, 3) := by decide +kernel
theorem dX4_chainWith_18 : decode cX4_chainWith 18 = .ok (.iload_n 1, 1) := by decide +kernel
theorem dX4_chainWith_19 : decode cX4_chainWith 19 = .ok (.if_icmp .eq 11, 3) := by decide +kernel
theorem dX4_chainWith_22 : decode cX4_chainWith 22 = .ok (.aload_n 2, 1) := by decide +kernel
theorem dX4_chainWith_23 : decode cX4_chainWith 23 = .ok (.getfield 24, 3) := by decide +kernel
theorem dX4_chainWith_26 : decode cX4_chainWith 26 = .ok (.astore_n 2, 1) := by decide +kernel
theorem dX4_chainWith_27 : decode cX4_chainWith 27 = .ok (.goto (-17), 3) := by decide +kernel
theorem dX4_chainWith_30 : decode cX4_chainWith 30 = .ok (.aload_n 2, 1) := by decide +kernel
theorem dX4_chainWith_31 : decode cX4_chainWith 31 = .ok (.areturn, 1) := by decide +kernel
set_option maxHeartbeats 4000000 in
set_option maxRecDepth 100000 in
theorem T_X4_chainWith (l : Launch) (hl : l.stackTraces = false) (D : va_G) (cA : Nat → ClassId) {l0 : Option Nat} {l1 : Int32} {x : HS} {Q : Option Nat → HS → Prop} {X : String → HS → Prop} (h : w_X4_chainWith l0 l1 x Q X) : YQ l yX4_chainWith wsX4_chainWith 0 0 D cA [.q l0, .i l1] x Q X := by
  refine YQ.of (cc := cX4_chainWith) (maxL := 3) (ret := (some (.object "FactKeeper$Chain"))) hl (by decide) rfl rfl (fun g B fr => ?_)
  have o := B.o
  have hb := B.hb
  have hts := B.hts
  have hown : g.s.vm.findClass RX4 = some g.m.cls := B.hown
  have in0 : ∀ w ∈ u_ws RX0 TX0 5, w ∈ wsX4_chainWith := fun w h => (List.mem_cons_of_mem _ (List.mem_append_right _ h))
  have in4 : ∀ w ∈ u_ws RX4 TX4 2, w ∈ wsX4_chainWith := fun w h => (List.mem_cons_of_mem _ (List.mem_append_left _ (List.mem_append_right _ h)))
  unfold w_X4_chainWith at h
  show KW g 3 0 [(0, .q l0), (1, .i l1)] [] x
  refine k_aload_n o hb dX4_chainWith_0 rfl 0 rfl ?_
  refine k_getF (C := RX4) (T := TX4) (N := 2) o hb hts in4 hown rfl (by decide) 1 (by decide) rfl (hts (.fieldLink RX4 11 "FactKeeper$Index" "buckets" "[LFactKeeper$Chain;") (by decide +kernel)) (fun _ h9 => h9) dX4_chainWith_1 h (fun v1 h => ?_)
  refine k_iload_n o hb dX4_chainWith_4 rfl 1 rfl ?_
  refine k_bipush (v := 63) o hb dX4_chainWith_5 (by decide) ?_
  refine k_iand o hb dX4_chainWith_7 ?_
  refine k_aald (kd := 29) (t0 := 8) o hb rfl (by decide) dX4_chainWith_8 h (fun v2 h => ?_)
  refine k_astore_n o hb dX4_chainWith_9 rfl rfl ?_
  refine KW.sub [2, 0] rfl ?_
  refine wLoop_elim (M := fun (v6 : Option Nat) (x5 : HS) => KW g 3 10 [(1, .i l1), (2, .q v6)] [] x5) h ?_
  intro v6 x5 again3 ih4 h
  refine k_aload_n o hb dX4_chainWith_10 rfl 1 rfl ?_
  refine wJoin_elim (M := fun K => ∀  (x8 : HS), K  x8 → KW g 3 30 [(2, .q v6)] [] x8) h ?_ (fun j7 hj7 h => ?_)
  · skip
    intro  x8 h
    refine k_aload_n o hb dX4_chainWith_30 rfl 0 rfl ?_
    exact k_aret o hb B.hr (Or.inl ⟨_, rfl⟩) fr dX4_chainWith_31 h
  · skip
    refine k_ifnull (tgt := 30) o hb dX4_chainWith_11 (by decide) h (fun h => ?_) (fun h => ?_)
    · skip
      exact KW.sub [1] rfl (hj7 x5 h)
    · skip
      refine k_aload_n o hb dX4_chainWith_14 rfl 1 rfl ?_
      refine k_getI (C := RX0) (T := TX0) (N := 5) o hb hts in0 hown rfl (by decide) 1 (by decide) rfl (hts (.fieldLink RX4 21 "FactKeeper$Chain" "shared" "I") (by decide +kernel)) (fun _ h9 => h9) dX4_chainWith_15 h (fun v9 h => ?_)
      refine k_iload_n o hb dX4_chainWith_18 rfl 0 rfl ?_
      refine k_icmp_eq (tgt := 30) o hb dX4_chainWith_19 (by decide) h (fun h => ?_) (fun h => ?_)
      · skip
        exact KW.sub [1] rfl (hj7 x5 h)
      · skip
        refine k_aload_n o hb dX4_chainWith_22 rfl 1 rfl ?_
        refine k_getF (C := RX0) (T := TX0) (N := 5) o hb hts in0 hown rfl (by decide) 2 (by decide) rfl (hts (.fieldLink RX4 24 "FactKeeper$Chain" "sibling" "LFactKeeper$Chain;") (by decide +kernel)) (fun _ h9 => h9) dX4_chainWith_23 h (fun v10 h => ?_)
        refine k_astore_n o hb dX4_chainWith_26 rfl rfl ?_
        refine k_goto (tgt := 10) o hb dX4_chainWith_27 (by decide) ?_
        exact KW.sub [1, 0] rfl (ih4 v10 x5 h)
theorem dX4_chainFor_0 : decode cX4_chainFor 0 = .ok (.aload_n 1, 1) := by decide +kernel
theorem dX4_chainFor_1 : decode cX4_chainFor 1 = .ok (.getfield 28, 3) := by decide +kernel
theorem dX4_chainFor_4 : decode cX4_chainFor 4 = .ok (.aload_n 0, 1) := by decide +kernel
theorem dX4_chainFor_5 : decode cX4_chainFor 5 = .ok (.getfield 17, 3) := by decide +kernel
theorem dX4_chainFor_8 : decode cX4_chainFor 8 = .ok (.iaload, 1) := by decide +kernel
theorem dX4_chainFor_9 : decode cX4_chainFor 9 = .ok (.istore_n 2, 1) := by decide +kernel
theorem dX4_chainFor_10 : decode cX4_chainFor 10 = .ok (.aload_n 0, 1) := by decide +kernel
theorem dX4_chainFor_11 : decode cX4_chainFor 11 = .ok (.iload_n 2, 1) := by decide +kernel
theorem dX4_chainFor_12 : decode cX4_chainFor 12 = .ok (.invokevirtual 34, 3) := by decide +kernel
theorem dX4_chainFor_15 : decode cX4_chainFor 15 = .ok (.astore_n 3, 1) := by decide +kernel
theorem dX4_chainFor_16 : decode cX4_chainFor 16 = .ok (.aload_n 3, 1) := by decide +kernel
theorem dX4_chainFor_17 : decode cX4_chainFor 17 = .ok (.ifnonnull 37, 3) := by decide +kernel
theorem dX4_chainFor_20 : decode cX4_chainFor 20 = .ok (.iload_n 2, 1) := by decide +kernel
theorem dX4_chainFor_21 : decode cX4_chainFor 21 = .ok (.bipush 63, 2) := by decide +kernel
theorem dX4_chainFor_23 : decode cX4_chainFor 23 = .ok (.iand, 1) := by decide +kernel
theorem dX4_chainFor_24 : decode cX4_chainFor 24 = .ok (.istore 4, 2) := by decide +kernel
theorem dX4_chainFor_26 : decode cX4_chainFor 26 = .ok (.new 9, 3) := by decide +kernel
theorem dX4_chainFor_29 : decode cX4_chainFor 29 = .ok (.dup, 1) := by decide +kernel
theorem dX4_chainFor_30 : decode cX4_chainFor 30 = .ok (.aload_n 0, 1) := by decide +kernel
theorem dX4_chainFor_31 : decode cX4_chainFor 31 = .ok (.getfield 17, 3) := by decide +kernel
theorem dX4_chainFor_34 : decode cX4_chainFor 34 = .ok (.iload_n 2, 1) := by decide +kernel
theorem dX4_chainFor_35 : decode cX4_chainFor 35 = .ok (.aload_n 0, 1) := by decide +kernel
theorem dX4_chainFor_36 : decode cX4_chainFor 36 = .ok (.getfield 11, 3) := by decide +kernel
theorem dX4_chainFor_39 : decode cX4_chainFor 39 = .ok (.iload 4, 2) := by decide +kernel
theorem dX4_chainFor_41 : decode cX4_chainFor 41 = .ok (.aaload, 1) := by decide +kernel
theorem dX4_chainFor_42 : decode cX4_chainFor 42 = .ok (.invokespecial 38, 3) := by decide +kernel
theorem dX4_chainFor_45 : decode cX4_chainFor 45 = .ok (.astore_n 3, 1) := by decide +kernel
theorem dX4_chainFor_46 : decode cX4_chainFor 46 = .ok (.aload_n 0, 1) := by decide +kernel
theorem dX4_chainFor_47 : decode cX4_chainFor 47 = .ok (.getfield 11, 3) := by decide +kernel
theorem dX4_chainFor_50 : decode cX4_chainFor 50 = .ok (.iload 4, 2) := by decide +kernel
theorem dX4_chainFor_52 : decode cX4_chainFor 52 = .ok (.aload_n 3, 1) := by decide +kernel
theorem dX4_chainFor_53 : decode cX4_chainFor 53 = .ok (.aastore, 1) := by decide +kernel
theorem dX4_chainFor_54 : decode cX4_chainFor 54 = .ok (.aload_n 3, 1) := by decide +kernel
theorem dX4_chainFor_55 : decode cX4_chainFor 55 = .ok (.areturn, 1) := by decide +kernel
theorem i9wsX4_chainFor_0 : ∀ w ∈ ([.fieldLink RX4 28 "FactKeeper$Fact" "columns" "[I", .fieldLink RX4 17 "FactKeeper$Index" "column" "I", .classLink RX4 9 RX0, .instantiable RX0 5, .initialized RX0, .fieldLink RX4 11 "FactKeeper$Index" "buckets" "[LFactKeeper$Chain;", .methodLink RX4 34 yX4_chainWith, .instanceMethod yX4_chainWith, .selects RX4 yX4_chainWith yX4_chainWith, .initialized RX4, .code yX4_chainWith cX4_chainWith 3 (some (.object "FactKeeper$Chain")), .fieldLink RX4 21 "FactKeeper$Chain" "shared" "I", .fieldLink RX4 24 "FactKeeper$Chain" "sibling" "LFactKeeper$Chain;", .methodLink RX4 38 yX0_init, .instanceMethod yX0_init, .code yX0_init cX0_init 4 none, .methodLink RX0 1 objectInit, .instanceMethod objectInit, .code objectInit ⟨#[0xb1]⟩ 1 none, .fieldLink RX0 7 "FactKeeper$Chain" "lane" "I", .fieldLink RX0 13 "FactKeeper$Chain" "shared" "I", .fieldLink RX0 16 "FactKeeper$Chain" "sibling" "LFactKeeper$Chain;"] : List Cond), w ∈ wsX4_chainFor := fun _ h => (List.mem_cons_of_mem _ (List.mem_append_left _ (List.mem_append_left _ (List.mem_append_left _ h))))
theorem i9wsX4_chainFor_2 : ∀ w ∈ wsX40, w ∈ wsX4_chainFor := fun _ h => (List.mem_cons_of_mem _ (List.mem_append_left _ (List.mem_append_right _ h)))
theorem i9wsX4_chainFor_3 : ∀ w ∈ wsX00, w ∈ wsX4_chainFor := fun _ h => (List.mem_cons_of_mem _ (List.mem_append_right _ h))
set_option maxRecDepth 20000 in
theorem ggX4_chainFor_X4_chainWith : GoodIn wsX4_chainFor wsX4_chainWith := (gin_c (mem_at i9wsX4_chainFor_0 10 rfl) rfl (goodIn_app (goodIn_app (gin_c (mem_at i9wsX4_chainFor_0 5 rfl) rfl (gin_c (mem_at i9wsX4_chainFor_0 11 rfl) rfl (gin_c (mem_at i9wsX4_chainFor_0 12 rfl) rfl gin_n))) (goodIn_sub i9wsX4_chainFor_2 g9_2)) (goodIn_sub i9wsX4_chainFor_3 g9_1)))
set_option maxRecDepth 20000 in
theorem gX4_chainFor_X4_chainWith : GoodIn wsX4_chainFor (wsV RX4 34 RX4 yX4_chainWith wsX4_chainWith) := goodIn_app (gin_c (mem_at i9wsX4_chainFor_0 6 rfl) rfl (gin_c (mem_at i9wsX4_chainFor_0 7 rfl) rfl (gin_c (mem_at i9wsX4_chainFor_0 8 rfl) rfl (gin_c (mem_at i9wsX4_chainFor_0 9 rfl) rfl gin_n)))) ggX4_chainFor_X4_chainWith
set_option maxRecDepth 20000 in
theorem ggX4_chainFor_X0_init : GoodIn wsX4_chainFor wsX0_init := (gin_c (mem_at i9wsX4_chainFor_0 15 rfl) rfl (goodIn_app (gin_c (mem_at i9wsX4_chainFor_0 16 rfl) rfl (gin_c (mem_at i9wsX4_chainFor_0 17 rfl) rfl (gin_c (mem_at i9wsX4_chainFor_0 18 rfl) rfl (gin_c (mem_at i9wsX4_chainFor_0 19 rfl) rfl (gin_c (mem_at i9wsX4_chainFor_0 20 rfl) rfl (gin_c (mem_at i9wsX4_chainFor_0 21 rfl) rfl gin_n)))))) (goodIn_sub i9wsX4_chainFor_3 g9_1)))
set_option maxRecDepth 20000 in
theorem gX4_chainFor_X0_init : GoodIn wsX4_chainFor (wsX0_init) := ggX4_chainFor_X0_init
set_option maxHeartbeats 4000000 in
set_option maxRecDepth 100000 in
theorem T_X4_chainFor (l : Launch) (hl : l.stackTraces = false) (D : va_G) (cA : Nat → ClassId) {l0 : Option Nat} {l1 : Option Nat} {x : HS} {Q : Option Nat → HS → Prop} {X : String → HS → Prop} (h : w_X4_chainFor l0 l1 x Q X) : YQ l yX4_chainFor wsX4_chainFor 2 35 D cA [.q l0, .q l1] x Q X := by
  refine YQ.of (cc := cX4_chainFor) (maxL := 5) (ret := (some (.object "FactKeeper$Chain"))) hl (by decide) rfl rfl (fun g B fr => ?_)
  have o := B.o
  have hb := B.hb
  have hts := B.hts
  have hown : g.s.vm.findClass RX4 = some g.m.cls := B.hown
  have in0 : ∀ w ∈ u_ws RX0 TX0 5, w ∈ wsX4_chainFor := fun w h => (List.mem_cons_of_mem _ (List.mem_append_right _ h))
  have in1 : ∀ w ∈ u_ws RX1 TX1 7, w ∈ wsX4_chainFor := fun w h => (List.mem_cons_of_mem _ (List.mem_append_left _ (List.mem_append_left _ (List.mem_append_right _ h))))
  have in4 : ∀ w ∈ u_ws RX4 TX4 2, w ∈ wsX4_chainFor := fun w h => (List.mem_cons_of_mem _ (List.mem_append_left _ (List.mem_append_right _ h)))
  unfold w_X4_chainFor at h
  show KW g 5 0 [(0, .q l0), (1, .q l1)] [] x
  refine k_aload_n o hb dX4_chainFor_0 rfl 1 rfl ?_
  refine k_getF (C := RX1) (T := TX1) (N := 7) o hb hts in1 hown rfl (by decide) 0 (by decide) rfl (hts (.fieldLink RX4 28 "FactKeeper$Fact" "columns" "[I") (by decide +kernel)) (fun _ h9 => h9) dX4_chainFor_1 h (fun v1 h => ?_)
  refine k_aload_n o hb dX4_chainFor_4 rfl 0 rfl ?_
  refine k_getI (C := RX4) (T := TX4) (N := 2) o hb hts in4 hown rfl (by decide) 0 (by decide) rfl (hts (.fieldLink RX4 17 "FactKeeper$Index" "column" "I") (by decide +kernel)) (fun _ h9 => h9) dX4_chainFor_5 h (fun v2 h => ?_)
  refine k_iald o hb dX4_chainFor_8 h (fun v3 h => ?_)
  refine k_istore_n o hb dX4_chainFor_9 rfl rfl ?_
  refine k_aload_n o hb dX4_chainFor_10 rfl 1 rfl ?_
  refine k_iload_n o hb dX4_chainFor_11 rfl 0 rfl ?_
  refine k_run_q o (fun _ _ q => q) (k_runV (ci := 4) (rc := (RX4, TX4, 2)) o hb B.hml hown hts rfl (by decide) (T_X4_chainWith g.l o.hl g.D g.cA h.2) (cwV 1 hts gX4_chainFor_X4_chainWith rfl rfl rfl (by decide +kernel) ⟨yle B.hR1 rfl, yle B.hR2 rfl⟩) h.1 rfl rfl (Nat.le_of_ble_eq_true rfl) dX4_chainFor_12) (fun v5 x4 h => ?_)
  refine k_astore_n o hb dX4_chainFor_15 rfl rfl ?_
  refine k_aload_n o hb dX4_chainFor_16 rfl 0 rfl ?_
  refine wJoin_elim (M := fun K => ∀ (v8 : Option Nat) (x7 : HS), K v8 x7 → KW g 5 54 [(3, .q v8)] [] x7) h ?_ (fun j6 hj6 h => ?_)
  · skip
    intro v8 x7 h
    refine k_aload_n o hb dX4_chainFor_54 rfl 0 rfl ?_
    exact k_aret o hb B.hr (Or.inl ⟨_, rfl⟩) fr dX4_chainFor_55 h
  · skip
    refine k_ifnonnull (tgt := 54) o hb dX4_chainFor_17 (by decide) h (fun h => ?_) (fun h => ?_)
    · skip
      refine k_iload_n o hb dX4_chainFor_20 rfl 1 rfl ?_
      refine k_bipush (v := 63) o hb dX4_chainFor_21 (by decide) ?_
      refine k_iand o hb dX4_chainFor_23 ?_
      refine k_istore o hb dX4_chainFor_24 rfl ?_
      refine k_new (C := RX0) (T := TX0) (N := 5) o hb hts in0 tyX0 tyX0_ok hown (hts (.classLink RX4 9 RX0) (by decide +kernel)) (hts (.instantiable RX0 5) (by decide +kernel)) (hts (.initialized RX0) (by decide +kernel)) rfl (by decide) (fun j hj => by rcases (show j = 0 ∨ j = 1 ∨ j = 2 ∨ j = 3 ∨ j = 4 by omega) with rfl | rfl | rfl | rfl | rfl <;> rfl) dX4_chainFor_26 h (fun q9 x10 h => ?_)
      refine k_dup o hb dX4_chainFor_29 ?_
      refine k_aload_n o hb dX4_chainFor_30 rfl 3 rfl ?_
      refine k_getI (C := RX4) (T := TX4) (N := 2) o hb hts in4 hown rfl (by decide) 0 (by decide) rfl (hts (.fieldLink RX4 17 "FactKeeper$Index" "column" "I") (by decide +kernel)) (fun _ h9 => h9) dX4_chainFor_31 h (fun v11 h => ?_)
      refine k_iload_n o hb dX4_chainFor_34 rfl 2 rfl ?_
      refine k_aload_n o hb dX4_chainFor_35 rfl 3 rfl ?_
      refine k_getF (C := RX4) (T := TX4) (N := 2) o hb hts in4 hown rfl (by decide) 1 (by decide) rfl (hts (.fieldLink RX4 11 "FactKeeper$Index" "buckets" "[LFactKeeper$Chain;") (by decide +kernel)) (fun _ h9 => h9) dX4_chainFor_36 h (fun v12 h => ?_)
      refine k_iload o hb dX4_chainFor_39 0 rfl ?_
      refine k_aald (kd := 29) (t0 := 8) o hb rfl (by decide) dX4_chainFor_41 h (fun v13 h => ?_)
      refine k_run_v o (fun _ _ q => q.elim) (k_runI o hb B.hml hown hts (T_X0_init g.l o.hl g.D g.cA h) yX_no (cwI 3 hts gX4_chainFor_X0_init rfl rfl rfl (hts (.initialized RX0) (by decide +kernel)) (hts (.methodLink RX4 38 yX0_init) (by decide +kernel)) (hts (.instanceMethod yX0_init) (by decide +kernel)) rfl (by decide +kernel) ⟨yle B.hR1 rfl, yle B.hR2 rfl⟩) rfl rfl (Nat.le_of_ble_eq_true rfl) dX4_chainFor_42) (fun x14 h => ?_)
      refine k_astore_n o hb dX4_chainFor_45 rfl rfl ?_
      refine k_aload_n o hb dX4_chainFor_46 rfl 3 rfl ?_
      refine k_getF (C := RX4) (T := TX4) (N := 2) o hb hts in4 hown rfl (by decide) 1 (by decide) rfl (hts (.fieldLink RX4 11 "FactKeeper$Index" "buckets" "[LFactKeeper$Chain;") (by decide +kernel)) (fun _ h9 => h9) dX4_chainFor_47 h (fun v16 h => ?_)
      refine k_iload o hb dX4_chainFor_50 1 rfl ?_
      refine k_aload_n o hb dX4_chainFor_52 rfl 0 rfl ?_
      refine k_aast (kd := 29) (ci := 0) (t0 := 8) (rc := (RX0, TX0, 5)) o hb rfl (by decide) (by decide) rfl dX4_chainFor_53 h (fun x17 h => ?_)
      exact KW.sub [0] rfl (hj6 (some q9) x17 h)
    · skip
      exact KW.sub [0] rfl (hj6 v5 x4 h)
theorem dX4_empty_0 : decode cX4_empty 0 = .ok (.iconst 0, 1) := by decide +kernel
theorem dX4_empty_1 : decode cX4_empty 1 = .ok (.istore_n 1, 1) := by decide +kernel
theorem dX4_empty_2 : decode cX4_empty 2 = .ok (.iload_n 1, 1) := by decide +kernel
theorem dX4_empty_3 : decode cX4_empty 3 = .ok (.bipush 64, 2) := by decide +kernel
theorem dX4_empty_5 : decode cX4_empty 5 = .ok (.if_icmp .ge 32, 3) := by decide +kernel
theorem dX4_empty_8 : decode cX4_empty 8 = .ok (.aload_n 0, 1) := by decide +kernel
theorem dX4_empty_9 : decode cX4_empty 9 = .ok (.getfield 11, 3) := by decide +kernel
theorem dX4_empty_12 : decode cX4_empty 12 = .ok (.iload_n 1, 1) := by decide +kernel
theorem dX4_empty_13 : decode cX4_empty 13 = .ok (.aaload, 1) := by decide +kernel
theorem dX4_empty_14 : decode cX4_empty 14 = .ok (.astore_n 2, 1) := by decide +kernel
theorem dX4_empty_15 : decode cX4_empty 15 = .ok (.aload_n 2, 1) := by decide +kernel
theorem dX4_empty_16 : decode cX4_empty 16 = .ok (.ifnull 15, 3) := by decide +kernel
theorem dX4_empty_19 : decode cX4_empty 19 = .ok (.aload_n 2, 1) := by decide +kernel
theorem dX4_empty_20 : decode cX4_empty 20 = .ok (.invokevirtual 41, 3) := by decide +kernel
theorem dX4_empty_23 : decode cX4_empty 23 = .ok (.aload_n 2, 1) := by decide +kernel
theorem dX4_empty_24 : decode cX4_empty 24 = .ok (.getfield 24, 3) := by decide +kernel
theorem dX4_empty_27 : decode cX4_empty 27 = .ok (.astore_n 2, 1) := by decide +kernel
theorem dX4_empty_28 : decode cX4_empty 28 = .ok (.goto (-13), 3) := by decide +kernel
theorem dX4_empty_31 : decode cX4_empty 31 = .ok (.iinc 1 1, 3) := by decide +kernel
theorem dX4_empty_34 : decode cX4_empty 34 = .ok (.goto (-32), 3) := by decide +kernel
theorem dX4_empty_37 : decode cX4_empty 37 = .ok (.return_, 1) := by decide +kernel
theorem i9wsX4_empty_0 : ∀ w ∈ ([.fieldLink RX4 11 "FactKeeper$Index" "buckets" "[LFactKeeper$Chain;", .fieldLink RX4 24 "FactKeeper$Chain" "sibling" "LFactKeeper$Chain;", .methodLink RX4 41 yX0_empty, .instanceMethod yX0_empty, .selects RX0 yX0_empty yX0_empty, .initialized RX0, .code yX0_empty cX0_empty 1 none, .fieldLink RX0 26 "FactKeeper$Chain" "first" "LFactKeeper$Fact;", .fieldLink RX0 30 "FactKeeper$Chain" "last" "LFactKeeper$Fact;"] : List Cond), w ∈ wsX4_empty := fun _ h => (List.mem_cons_of_mem _ (List.mem_append_left _ (List.mem_append_left _ h)))
theorem i9wsX4_empty_2 : ∀ w ∈ wsX00, w ∈ wsX4_empty := fun _ h => (List.mem_cons_of_mem _ (List.mem_append_right _ h))
set_option maxRecDepth 20000 in
theorem ggX4_empty_X0_empty : GoodIn wsX4_empty wsX0_empty := (gin_c (mem_at i9wsX4_empty_0 6 rfl) rfl (goodIn_app (gin_c (mem_at i9wsX4_empty_0 7 rfl) rfl (gin_c (mem_at i9wsX4_empty_0 8 rfl) rfl gin_n)) (goodIn_sub i9wsX4_empty_2 g9_1)))
set_option maxRecDepth 20000 in
theorem gX4_empty_X0_empty : GoodIn wsX4_empty (wsV RX4 41 RX0 yX0_empty wsX0_empty) := goodIn_app (gin_c (mem_at i9wsX4_empty_0 2 rfl) rfl (gin_c (mem_at i9wsX4_empty_0 3 rfl) rfl (gin_c (mem_at i9wsX4_empty_0 4 rfl) rfl (gin_c (mem_at i9wsX4_empty_0 5 rfl) rfl gin_n)))) ggX4_empty_X0_empty
set_option maxHeartbeats 4000000 in
set_option maxRecDepth 100000 in
theorem T_X4_empty (l : Launch) (hl : l.stackTraces = false) (D : va_G) (cA : Nat → ClassId) {l0 : Option Nat} {x : HS} {Q : HS → Prop} {X : String → HS → Prop} (h : w_X4_empty l0 x Q X) : YV l yX4_empty wsX4_empty 1 20 D cA [.q l0] x Q X := by
  refine YV.of (cc := cX4_empty) (maxL := 3) (ret := none) hl (by decide) rfl rfl (fun g B fr => ?_)
  have o := B.o
  have hb := B.hb
  have hts := B.hts
  have hown : g.s.vm.findClass RX4 = some g.m.cls := B.hown
  have in0 : ∀ w ∈ u_ws RX0 TX0 5, w ∈ wsX4_empty := fun w h => (List.mem_cons_of_mem _ (List.mem_append_right _ h))
  have in4 : ∀ w ∈ u_ws RX4 TX4 2, w ∈ wsX4_empty := fun w h => (List.mem_cons_of_mem _ (List.mem_append_left _ (List.mem_append_right _ h)))
  unfold w_X4_empty at h
  show KW g 3 0 [(0, .q l0)] [] x
  refine k_iconst (v := 0) o hb dX4_empty_0 (by decide) ?_
  refine k_istore_n o hb dX4_empty_1 rfl rfl ?_
  refine KW.sub [1, 0] rfl ?_
  refine wLoop_elim (M := fun (v4 : Int32) (x3 : HS) => KW g 3 2 [(0, .q l0), (1, .i v4)] [] x3) h ?_
  intro v4 x3 again1 ih2 h
  refine k_iload_n o hb dX4_empty_2 rfl 1 rfl ?_
  refine k_bipush (v := 64) o hb dX4_empty_3 (by decide) ?_
  refine k_icmp_ge (tgt := 37) o hb dX4_empty_5 (by decide) h (fun h => ?_) (fun h => ?_)
  · skip
    exact k_vret o hb B.hr fr dX4_empty_37 h
  · skip
    refine k_aload_n o hb dX4_empty_8 rfl 0 rfl ?_
    refine k_getF (C := RX4) (T := TX4) (N := 2) o hb hts in4 hown rfl (by decide) 1 (by decide) rfl (hts (.fieldLink RX4 11 "FactKeeper$Index" "buckets" "[LFactKeeper$Chain;") (by decide +kernel)) (fun _ h9 => h9) dX4_empty_9 h (fun v5 h => ?_)
    refine k_iload_n o hb dX4_empty_12 rfl 1 rfl ?_
    refine k_aald (kd := 29) (t0 := 8) o hb rfl (by decide) dX4_empty_13 h (fun v6 h => ?_)
    refine k_astore_n o hb dX4_empty_14 rfl rfl ?_
    refine KW.sub [1, 2, 0] rfl ?_
    refine wLoop_elim (M := fun (v10 : Int32 × Option Nat) (x9 : HS) => KW g 3 15 [(0, .q l0), (1, .i v10.1), (2, .q v10.2)] [] x9) h ?_
    intro v10 x9 again7 ih8 h
    refine k_aload_n o hb dX4_empty_15 rfl 2 rfl ?_
    refine k_ifnull (tgt := 31) o hb dX4_empty_16 (by decide) h (fun h => ?_) (fun h => ?_)
    · skip
      refine k_iinc (w := 1) o hb dX4_empty_31 1 rfl (by decide) rfl ?_
      refine k_goto (tgt := 2) o hb dX4_empty_34 (by decide) ?_
      exact KW.sub [1, 0] rfl (ih2 (v10.1 + 1) x9 h)
    · skip
      refine k_aload_n o hb dX4_empty_19 rfl 2 rfl ?_
      refine k_run_v o (fun _ _ q => q) (k_runV (ci := 0) (rc := (RX0, TX0, 5)) o hb B.hml hown hts rfl (by decide) (T_X0_empty g.l o.hl g.D g.cA h.2) (cwV 0 hts gX4_empty_X0_empty rfl rfl rfl (by decide +kernel) ⟨yle B.hR1 rfl, yle B.hR2 rfl⟩) h.1 rfl rfl (Nat.le_of_ble_eq_true rfl) dX4_empty_20) (fun x11 h => ?_)
      refine k_aload_n o hb dX4_empty_23 rfl 2 rfl ?_
      refine k_getF (C := RX0) (T := TX0) (N := 5) o hb hts in0 hown rfl (by decide) 2 (by decide) rfl (hts (.fieldLink RX4 24 "FactKeeper$Chain" "sibling" "LFactKeeper$Chain;") (by decide +kernel)) (fun _ h9 => h9) dX4_empty_24 h (fun v13 h => ?_)
      refine k_astore_n o hb dX4_empty_27 rfl rfl ?_
      refine k_goto (tgt := 15) o hb dX4_empty_28 (by decide) ?_
      exact KW.sub [1, 2, 0] rfl (ih8 (v10.1, v13) x11 h)
theorem dX7_init_0 : decode cX7_init 0 = .ok (.aload_n 0, 1) := by decide +kernel
theorem dX7_init_1 : decode cX7_init 1 = .ok (.invokespecial 3, 3) := by decide +kernel
theorem dX7_init_4 : decode cX7_init 4 = .ok (.aload_n 0, 1) := by decide +kernel
theorem dX7_init_5 : decode cX7_init 5 = .ok (.sipush 800, 3) := by decide +kernel
theorem dX7_init_8 : decode cX7_init 8 = .ok (.newarray .int, 2) := by decide +kernel
theorem dX7_init_10 : decode cX7_init 10 = .ok (.putfield 9, 3) := by decide +kernel
theorem dX7_init_13 : decode cX7_init 13 = .ok (.return_, 1) := by decide +kernel
set_option maxHeartbeats 4000000 in
set_option maxRecDepth 100000 in
theorem T_X7_init (l : Launch) (hl : l.stackTraces = false) (D : va_G) (cA : Nat → ClassId) {l0 : Option Nat} {x : HS} {Q : HS → Prop} {X : String → HS → Prop} (h : w_X7_init l0 x Q X) : YV l yX7_init wsX7_init 1 12 D cA [.q l0] x Q X := by
  refine YV.of (cc := cX7_init) (maxL := 1) (ret := none) hl (by decide) rfl rfl (fun g B fr => ?_)
  have o := B.o
  have hb := B.hb
  have hts := B.hts
  have hown : g.s.vm.findClass RX7 = some g.m.cls := B.hown
  have in7 : ∀ w ∈ u_ws RX7 TX7 3, w ∈ wsX7_init := fun w h => (List.mem_cons_of_mem _ (List.mem_append_right _ h))
  unfold w_X7_init at h
  show KW g 1 0 [(0, .q l0)] [] x
  refine k_aload_n o hb dX7_init_0 rfl 0 rfl ?_
  refine k_objInit o hb B.hml hown (hts (.methodLink RX7 3 objectInit) (by decide +kernel)) (hts (.instanceMethod objectInit) (by decide +kernel)) (hts (.code objectInit ⟨#[0xb1]⟩ 1 none) (by decide +kernel)) (yle B.hR1 rfl) (yle B.hR2 rfl) dX7_init_1 h.1 ?_
  have h := h.2
  refine k_aload_n o hb dX7_init_4 rfl 0 rfl ?_
  refine k_sipush (v := 800) o hb dX7_init_5 (by decide) ?_
  refine k_newJ (atype := .int) (ty := .int) (kd := 20) (t0 := 0) o hb (hts (.arrayClass .int) (by decide +kernel)) rfl (by decide) (by decide) rfl (fun _ _ => rfl) (by decide) dX7_init_8 h (fun q1 x2 h => ?_)
  refine k_putFF (C := RX7) (T := TX7) (N := 3) (ty := (tyX7 0)) o hb hts in7 tyX7 tyX7_ok nmX7 hown rfl (by decide) 0 (by decide) rfl (hts (.fieldLink RX7 9 "FactKeeper$Solutions" "kept" "[I") (by decide +kernel)) (fun _ h9 => h9) rfl B.hnm rfl (by decide +kernel) (fun r => by cases r <;> rfl) (fun r => by cases r <;> rfl) dX7_init_10 h (fun x3 h => ?_)
  exact k_vret o hb B.hr fr dX7_init_13 h
theorem dX7_keptCount_0 : decode cX7_keptCount 0 = .ok (.aload_n 0, 1) := by decide +kernel
theorem dX7_keptCount_1 : decode cX7_keptCount 1 = .ok (.getfield 15, 3) := by decide +kernel
theorem dX7_keptCount_4 : decode cX7_keptCount 4 = .ok (.bipush 100, 2) := by decide +kernel
theorem dX7_keptCount_6 : decode cX7_keptCount 6 = .ok (.invokestatic 19, 3) := by decide +kernel
theorem dX7_keptCount_9 : decode cX7_keptCount 9 = .ok (.ireturn, 1) := by decide +kernel
set_option maxHeartbeats 4000000 in
set_option maxRecDepth 100000 in
theorem T_X7_keptCount (l : Launch) (hl : l.stackTraces = false) (D : va_G) (cA : Nat → ClassId) {l0 : Option Nat} {x : HS} {Q : Int32 → HS → Prop} {X : String → HS → Prop} (h : w_X7_keptCount l0 x Q X) : YI l yX7_keptCount wsX7_keptCount 1 14 D cA [.q l0] x Q X := by
  refine YI.of (cc := cX7_keptCount) (maxL := 1) (ret := (some .int)) hl (by decide) rfl rfl (fun g B fr => ?_)
  have o := B.o
  have hb := B.hb
  have hts := B.hts
  have hown : g.s.vm.findClass RX7 = some g.m.cls := B.hown
  have in7 : ∀ w ∈ u_ws RX7 TX7 3, w ∈ wsX7_keptCount := fun w h => (List.mem_cons_of_mem _ (List.mem_append_right _ h))
  unfold w_X7_keptCount at h
  show KW g 1 0 [(0, .q l0)] [] x
  refine k_aload_n o hb dX7_keptCount_0 rfl 0 rfl ?_
  refine k_getI (C := RX7) (T := TX7) (N := 3) o hb hts in7 hown rfl (by decide) 2 (by decide) rfl (hts (.fieldLink RX7 15 "FactKeeper$Solutions" "count" "I") (by decide +kernel)) (fun _ h9 => h9) dX7_keptCount_1 h (fun v1 h => ?_)
  refine k_bipush (v := 100) o hb dX7_keptCount_4 (by decide) ?_
  refine k_mmin o hb B.hml hown (hts (.methodLink RX7 19 Lib.Math.min.name) (by decide +kernel)) (hts (.static Lib.Math.min.name) (by decide +kernel)) (hts (.initialized "java/lang/Math") (by decide +kernel)) (hts (.code Lib.Math.min.name Lib.Math.min.code 2 (some .int)) (by decide +kernel)) (yle B.hR1 rfl) (yle B.hR2 rfl) dX7_keptCount_6 ?_
  exact k_iret o hb B.hr fr dX7_keptCount_9 h
theorem dX7_keep_0 : decode cX7_keep 0 = .ok (.aload_n 0, 1) := by decide +kernel
theorem dX7_keep_1 : decode cX7_keep 1 = .ok (.getfield 15, 3) := by decide +kernel
theorem dX7_keep_4 : decode cX7_keep 4 = .ok (.bipush 100, 2) := by decide +kernel
theorem dX7_keep_6 : decode cX7_keep 6 = .ok (.if_icmp .ge 21, 3) := by decide +kernel
theorem dX7_keep_9 : decode cX7_keep 9 = .ok (.aload_n 1, 1) := by decide +kernel
theorem dX7_keep_10 : decode cX7_keep 10 = .ok (.iconst 0, 1) := by decide +kernel
theorem dX7_keep_11 : decode cX7_keep 11 = .ok (.aload_n 0, 1) := by decide +kernel
theorem dX7_keep_12 : decode cX7_keep 12 = .ok (.getfield 9, 3) := by decide +kernel
theorem dX7_keep_15 : decode cX7_keep 15 = .ok (.aload_n 0, 1) := by decide +kernel
theorem dX7_keep_16 : decode cX7_keep 16 = .ok (.getfield 15, 3) := by decide +kernel
theorem dX7_keep_19 : decode cX7_keep 19 = .ok (.bipush 8, 2) := by decide +kernel
theorem dX7_keep_21 : decode cX7_keep 21 = .ok (.imul, 1) := by decide +kernel
theorem dX7_keep_22 : decode cX7_keep 22 = .ok (.bipush 8, 2) := by decide +kernel
theorem dX7_keep_24 : decode cX7_keep 24 = .ok (.invokestatic 25, 3) := by decide +kernel
theorem dX7_keep_27 : decode cX7_keep 27 = .ok (.aload_n 0, 1) := by decide +kernel
theorem dX7_keep_28 : decode cX7_keep 28 = .ok (.dup, 1) := by decide +kernel
theorem dX7_keep_29 : decode cX7_keep 29 = .ok (.getfield 15, 3) := by decide +kernel
theorem dX7_keep_32 : decode cX7_keep 32 = .ok (.iconst 1, 1) := by decide +kernel
theorem dX7_keep_33 : decode cX7_keep 33 = .ok (.iadd, 1) := by decide +kernel
theorem dX7_keep_34 : decode cX7_keep 34 = .ok (.putfield 15, 3) := by decide +kernel
theorem dX7_keep_37 : decode cX7_keep 37 = .ok (.return_, 1) := by decide +kernel
set_option maxHeartbeats 4000000 in
set_option maxRecDepth 100000 in
theorem T_X7_keep (l : Launch) (hl : l.stackTraces = false) (D : va_G) (cA : Nat → ClassId) {l0 : Option Nat} {l1 : Option Nat} {x : HS} {Q : HS → Prop} {X : String → HS → Prop} (h : w_X7_keep l0 l1 x Q X) : YV l yX7_keep wsX7_keep 1 60 D cA [.q l0, .q l1] x Q X := by
  refine YV.of (cc := cX7_keep) (maxL := 2) (ret := none) hl (by decide) rfl rfl (fun g B fr => ?_)
  have o := B.o
  have hb := B.hb
  have hts := B.hts
  have hown : g.s.vm.findClass RX7 = some g.m.cls := B.hown
  have in7 : ∀ w ∈ u_ws RX7 TX7 3, w ∈ wsX7_keep := fun w h => (List.mem_cons_of_mem _ (List.mem_append_right _ h))
  unfold w_X7_keep at h
  show KW g 2 0 [(0, .q l0), (1, .q l1)] [] x
  refine k_aload_n o hb dX7_keep_0 rfl 0 rfl ?_
  refine k_getI (C := RX7) (T := TX7) (N := 3) o hb hts in7 hown rfl (by decide) 2 (by decide) rfl (hts (.fieldLink RX7 15 "FactKeeper$Solutions" "count" "I") (by decide +kernel)) (fun _ h9 => h9) dX7_keep_1 h (fun v1 h => ?_)
  refine k_bipush (v := 100) o hb dX7_keep_4 (by decide) ?_
  refine wJoin_elim (M := fun K => ∀  (x3 : HS), K  x3 → KW g 2 27 [(0, .q l0)] [] x3) h ?_ (fun j2 hj2 h => ?_)
  · skip
    intro  x3 h
    refine k_aload_n o hb dX7_keep_27 rfl 0 rfl ?_
    refine k_dup o hb dX7_keep_28 ?_
    refine k_getI (C := RX7) (T := TX7) (N := 3) o hb hts in7 hown rfl (by decide) 2 (by decide) rfl (hts (.fieldLink RX7 15 "FactKeeper$Solutions" "count" "I") (by decide +kernel)) (fun _ h9 => h9) dX7_keep_29 h (fun v4 h => ?_)
    refine k_iconst (v := 1) o hb dX7_keep_32 (by decide) ?_
    refine k_iadd o hb dX7_keep_33 ?_
    refine k_putI (C := RX7) (T := TX7) (N := 3) (ty := .int) o hb hts in7 tyX7 tyX7_ok nmX7 hown rfl (by decide) 2 (by decide) rfl (hts (.fieldLink RX7 15 "FactKeeper$Solutions" "count" "I") (by decide +kernel)) (fun _ h9 => h9) rfl (by decide +kernel) (fun _ => rfl) (fun _ => rfl) dX7_keep_34 h (fun x5 h => ?_)
    exact k_vret o hb B.hr fr dX7_keep_37 h
  · skip
    refine k_icmp_ge (tgt := 27) o hb dX7_keep_6 (by decide) h (fun h => ?_) (fun h => ?_)
    · skip
      exact KW.sub [0] rfl (hj2 x h)
    · skip
      refine k_aload_n o hb dX7_keep_9 rfl 1 rfl ?_
      refine k_iconst (v := 0) o hb dX7_keep_10 (by decide) ?_
      refine k_aload_n o hb dX7_keep_11 rfl 0 rfl ?_
      refine k_getF (C := RX7) (T := TX7) (N := 3) o hb hts in7 hown rfl (by decide) 0 (by decide) rfl (hts (.fieldLink RX7 9 "FactKeeper$Solutions" "kept" "[I") (by decide +kernel)) (fun _ h9 => h9) dX7_keep_12 h (fun v6 h => ?_)
      refine k_aload_n o hb dX7_keep_15 rfl 0 rfl ?_
      refine k_getI (C := RX7) (T := TX7) (N := 3) o hb hts in7 hown rfl (by decide) 2 (by decide) rfl (hts (.fieldLink RX7 15 "FactKeeper$Solutions" "count" "I") (by decide +kernel)) (fun _ h9 => h9) dX7_keep_16 h (fun v7 h => ?_)
      refine k_bipush (v := 8) o hb dX7_keep_19 (by decide) ?_
      refine k_imul o hb dX7_keep_21 ?_
      refine k_bipush (v := 8) o hb dX7_keep_22 (by decide) ?_
      refine k_copy o hb B.hml hown (hts (.methodLink RX7 25 arraycopyName) (by decide +kernel)) (hts (.native arraycopyName) (by decide +kernel)) (hts (.static arraycopyName) (by decide +kernel)) (hts (.initialized "java/lang/System") (by decide +kernel)) (yle B.hR1 rfl) (yle B.hR2 rfl) dX7_keep_24 h (fun x8 h => ?_)
      exact KW.sub [0] rfl (hj2 x8 h)
theorem dJ6_bitCount_0f7a4_0 : decode cJ6_bitCount_0f7a4 0 = .ok (.iload_n 0, 1) := by decide +kernel
theorem dJ6_bitCount_0f7a4_1 : decode cJ6_bitCount_0f7a4 1 = .ok (.iload_n 0, 1) := by decide +kernel
theorem dJ6_bitCount_0f7a4_2 : decode cJ6_bitCount_0f7a4 2 = .ok (.iconst 1, 1) := by decide +kernel
theorem dJ6_bitCount_0f7a4_3 : decode cJ6_bitCount_0f7a4 3 = .ok (.iushr, 1) := by decide +kernel
theorem dJ6_bitCount_0f7a4_4 : decode cJ6_bitCount_0f7a4 4 = .ok (.ldc_w 265, 3) := by decide +kernel
theorem dJ6_bitCount_0f7a4_7 : decode cJ6_bitCount_0f7a4 7 = .ok (.iand, 1) := by decide +kernel
theorem dJ6_bitCount_0f7a4_8 : decode cJ6_bitCount_0f7a4 8 = .ok (.isub, 1) := by decide +kernel
theorem dJ6_bitCount_0f7a4_9 : decode cJ6_bitCount_0f7a4 9 = .ok (.istore_n 0, 1) := by decide +kernel
theorem dJ6_bitCount_0f7a4_10 : decode cJ6_bitCount_0f7a4 10 = .ok (.iload_n 0, 1) := by decide +kernel
theorem dJ6_bitCount_0f7a4_11 : decode cJ6_bitCount_0f7a4 11 = .ok (.ldc_w 266, 3) := by decide +kernel
theorem dJ6_bitCount_0f7a4_14 : decode cJ6_bitCount_0f7a4 14 = .ok (.iand, 1) := by decide +kernel
theorem dJ6_bitCount_0f7a4_15 : decode cJ6_bitCount_0f7a4 15 = .ok (.iload_n 0, 1) := by decide +kernel
theorem dJ6_bitCount_0f7a4_16 : decode cJ6_bitCount_0f7a4 16 = .ok (.iconst 2, 1) := by decide +kernel
theorem dJ6_bitCount_0f7a4_17 : decode cJ6_bitCount_0f7a4 17 = .ok (.iushr, 1) := by decide +kernel
theorem dJ6_bitCount_0f7a4_18 : decode cJ6_bitCount_0f7a4 18 = .ok (.ldc_w 266, 3) := by decide +kernel
theorem dJ6_bitCount_0f7a4_21 : decode cJ6_bitCount_0f7a4 21 = .ok (.iand, 1) := by decide +kernel
theorem dJ6_bitCount_0f7a4_22 : decode cJ6_bitCount_0f7a4 22 = .ok (.iadd, 1) := by decide +kernel
theorem dJ6_bitCount_0f7a4_23 : decode cJ6_bitCount_0f7a4 23 = .ok (.istore_n 0, 1) := by decide +kernel
theorem dJ6_bitCount_0f7a4_24 : decode cJ6_bitCount_0f7a4 24 = .ok (.iload_n 0, 1) := by decide +kernel
theorem dJ6_bitCount_0f7a4_25 : decode cJ6_bitCount_0f7a4 25 = .ok (.iload_n 0, 1) := by decide +kernel
theorem dJ6_bitCount_0f7a4_26 : decode cJ6_bitCount_0f7a4 26 = .ok (.iconst 4, 1) := by decide +kernel
theorem dJ6_bitCount_0f7a4_27 : decode cJ6_bitCount_0f7a4 27 = .ok (.iushr, 1) := by decide +kernel
theorem dJ6_bitCount_0f7a4_28 : decode cJ6_bitCount_0f7a4 28 = .ok (.iadd, 1) := by decide +kernel
theorem dJ6_bitCount_0f7a4_29 : decode cJ6_bitCount_0f7a4 29 = .ok (.ldc_w 267, 3) := by decide +kernel
theorem dJ6_bitCount_0f7a4_32 : decode cJ6_bitCount_0f7a4 32 = .ok (.iand, 1) := by decide +kernel
theorem dJ6_bitCount_0f7a4_33 : decode cJ6_bitCount_0f7a4 33 = .ok (.istore_n 0, 1) := by decide +kernel
theorem dJ6_bitCount_0f7a4_34 : decode cJ6_bitCount_0f7a4 34 = .ok (.iload_n 0, 1) := by decide +kernel
theorem dJ6_bitCount_0f7a4_35 : decode cJ6_bitCount_0f7a4 35 = .ok (.iload_n 0, 1) := by decide +kernel
theorem dJ6_bitCount_0f7a4_36 : decode cJ6_bitCount_0f7a4 36 = .ok (.bipush 8, 2) := by decide +kernel
theorem dJ6_bitCount_0f7a4_38 : decode cJ6_bitCount_0f7a4 38 = .ok (.iushr, 1) := by decide +kernel
theorem dJ6_bitCount_0f7a4_39 : decode cJ6_bitCount_0f7a4 39 = .ok (.iadd, 1) := by decide +kernel
theorem dJ6_bitCount_0f7a4_40 : decode cJ6_bitCount_0f7a4 40 = .ok (.istore_n 0, 1) := by decide +kernel
theorem dJ6_bitCount_0f7a4_41 : decode cJ6_bitCount_0f7a4 41 = .ok (.iload_n 0, 1) := by decide +kernel
theorem dJ6_bitCount_0f7a4_42 : decode cJ6_bitCount_0f7a4 42 = .ok (.iload_n 0, 1) := by decide +kernel
theorem dJ6_bitCount_0f7a4_43 : decode cJ6_bitCount_0f7a4 43 = .ok (.bipush 16, 2) := by decide +kernel
theorem dJ6_bitCount_0f7a4_45 : decode cJ6_bitCount_0f7a4 45 = .ok (.iushr, 1) := by decide +kernel
theorem dJ6_bitCount_0f7a4_46 : decode cJ6_bitCount_0f7a4 46 = .ok (.iadd, 1) := by decide +kernel
theorem dJ6_bitCount_0f7a4_47 : decode cJ6_bitCount_0f7a4 47 = .ok (.istore_n 0, 1) := by decide +kernel
theorem dJ6_bitCount_0f7a4_48 : decode cJ6_bitCount_0f7a4 48 = .ok (.iload_n 0, 1) := by decide +kernel
theorem dJ6_bitCount_0f7a4_49 : decode cJ6_bitCount_0f7a4 49 = .ok (.bipush 63, 2) := by decide +kernel
theorem dJ6_bitCount_0f7a4_51 : decode cJ6_bitCount_0f7a4 51 = .ok (.iand, 1) := by decide +kernel
theorem dJ6_bitCount_0f7a4_52 : decode cJ6_bitCount_0f7a4 52 = .ok (.ireturn, 1) := by decide +kernel
set_option maxHeartbeats 4000000 in
set_option maxRecDepth 100000 in
theorem T_J6_bitCount_0f7a4 (l : Launch) (hl : l.stackTraces = false) (D : va_G) (cA : Nat → ClassId) {l0 : Int32} {x : HS} {Q : Int32 → HS → Prop} {X : String → HS → Prop} (h : w_J6_bitCount_0f7a4 l0 x Q X) : YI l yJ6_bitCount_0f7a4 wsJ6_bitCount_0f7a4 0 0 D cA [.i l0] x Q X := by
  refine YI.of (cc := cJ6_bitCount_0f7a4) (maxL := 1) (ret := (some .int)) hl (by decide) rfl rfl (fun g B fr => ?_)
  have o := B.o
  have hb := B.hb
  have hts := B.hts
  have hown : g.s.vm.findClass RJ6 = some g.m.cls := B.hown
  unfold w_J6_bitCount_0f7a4 at h
  show KW g 1 0 [(0, .i l0)] [] x
  refine k_iload_n o hb dJ6_bitCount_0f7a4_0 rfl 0 rfl ?_
  refine k_iload_n o hb dJ6_bitCount_0f7a4_1 rfl 0 rfl ?_
  refine k_iconst (v := 1) o hb dJ6_bitCount_0f7a4_2 (by decide) ?_
  refine k_iushr o hb dJ6_bitCount_0f7a4_3 ?_
  refine k_ldc_w (v := 1431655765) o hb hown (hts (.constant RJ6 265 1431655765) (by decide +kernel)) dJ6_bitCount_0f7a4_4 ?_
  refine k_iand o hb dJ6_bitCount_0f7a4_7 ?_
  refine k_isub o hb dJ6_bitCount_0f7a4_8 ?_
  refine k_istore_n o hb dJ6_bitCount_0f7a4_9 rfl rfl ?_
  refine k_iload_n o hb dJ6_bitCount_0f7a4_10 rfl 0 rfl ?_
  refine k_ldc_w (v := 858993459) o hb hown (hts (.constant RJ6 266 858993459) (by decide +kernel)) dJ6_bitCount_0f7a4_11 ?_
  refine k_iand o hb dJ6_bitCount_0f7a4_14 ?_
  refine k_iload_n o hb dJ6_bitCount_0f7a4_15 rfl 0 rfl ?_
  refine k_iconst (v := 2) o hb dJ6_bitCount_0f7a4_16 (by decide) ?_
  refine k_iushr o hb dJ6_bitCount_0f7a4_17 ?_
  refine k_ldc_w (v := 858993459) o hb hown (hts (.constant RJ6 266 858993459) (by decide +kernel)) dJ6_bitCount_0f7a4_18 ?_
  refine k_iand o hb dJ6_bitCount_0f7a4_21 ?_
  refine k_iadd o hb dJ6_bitCount_0f7a4_22 ?_
  refine k_istore_n o hb dJ6_bitCount_0f7a4_23 rfl rfl ?_
  refine k_iload_n o hb dJ6_bitCount_0f7a4_24 rfl 0 rfl ?_
  refine k_iload_n o hb dJ6_bitCount_0f7a4_25 rfl 0 rfl ?_
  refine k_iconst (v := 4) o hb dJ6_bitCount_0f7a4_26 (by decide) ?_
  refine k_iushr o hb dJ6_bitCount_0f7a4_27 ?_
  refine k_iadd o hb dJ6_bitCount_0f7a4_28 ?_
  refine k_ldc_w (v := 252645135) o hb hown (hts (.constant RJ6 267 252645135) (by decide +kernel)) dJ6_bitCount_0f7a4_29 ?_
  refine k_iand o hb dJ6_bitCount_0f7a4_32 ?_
  refine k_istore_n o hb dJ6_bitCount_0f7a4_33 rfl rfl ?_
  refine k_iload_n o hb dJ6_bitCount_0f7a4_34 rfl 0 rfl ?_
  refine k_iload_n o hb dJ6_bitCount_0f7a4_35 rfl 0 rfl ?_
  refine k_bipush (v := 8) o hb dJ6_bitCount_0f7a4_36 (by decide) ?_
  refine k_iushr o hb dJ6_bitCount_0f7a4_38 ?_
  refine k_iadd o hb dJ6_bitCount_0f7a4_39 ?_
  refine k_istore_n o hb dJ6_bitCount_0f7a4_40 rfl rfl ?_
  refine k_iload_n o hb dJ6_bitCount_0f7a4_41 rfl 0 rfl ?_
  refine k_iload_n o hb dJ6_bitCount_0f7a4_42 rfl 0 rfl ?_
  refine k_bipush (v := 16) o hb dJ6_bitCount_0f7a4_43 (by decide) ?_
  refine k_iushr o hb dJ6_bitCount_0f7a4_45 ?_
  refine k_iadd o hb dJ6_bitCount_0f7a4_46 ?_
  refine k_istore_n o hb dJ6_bitCount_0f7a4_47 rfl rfl ?_
  refine k_iload_n o hb dJ6_bitCount_0f7a4_48 rfl 0 rfl ?_
  refine k_bipush (v := 63) o hb dJ6_bitCount_0f7a4_49 (by decide) ?_
  refine k_iand o hb dJ6_bitCount_0f7a4_51 ?_
  exact k_iret o hb B.hr fr dJ6_bitCount_0f7a4_52 h
