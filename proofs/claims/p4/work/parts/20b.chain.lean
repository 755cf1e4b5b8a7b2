theorem dX0_putBehind_0 : decode cX0_putBehind 0 = .ok (.aload_n 0, 1) := by decide +kernel
theorem dX0_putBehind_1 : decode cX0_putBehind 1 = .ok (.getfield 30, 3) := by decide +kernel
theorem dX0_putBehind_4 : decode cX0_putBehind 4 = .ok (.ifnonnull 11, 3) := by decide +kernel
theorem dX0_putBehind_7 : decode cX0_putBehind 7 = .ok (.aload_n 0, 1) := by decide +kernel
theorem dX0_putBehind_8 : decode cX0_putBehind 8 = .ok (.aload_n 1, 1) := by decide +kernel
theorem dX0_putBehind_9 : decode cX0_putBehind 9 = .ok (.invokevirtual 33, 3) := by decide +kernel
theorem dX0_putBehind_12 : decode cX0_putBehind 12 = .ok (.goto 12, 3) := by decide +kernel
theorem dX0_putBehind_15 : decode cX0_putBehind 15 = .ok (.aload_n 0, 1) := by decide +kernel
theorem dX0_putBehind_16 : decode cX0_putBehind 16 = .ok (.aload_n 1, 1) := by decide +kernel
theorem dX0_putBehind_17 : decode cX0_putBehind 17 = .ok (.aload_n 0, 1) := by decide +kernel
theorem dX0_putBehind_18 : decode cX0_putBehind 18 = .ok (.getfield 30, 3) := by decide +kernel
theorem dX0_putBehind_21 : decode cX0_putBehind 21 = .ok (.invokevirtual 37, 3) := by decide +kernel
theorem dX0_putBehind_24 : decode cX0_putBehind 24 = .ok (.return_, 1) := by decide +kernel
theorem dX0_putAfter_0 : decode cX0_putAfter 0 = .ok (.aload_n 1, 1) := by decide +kernel
theorem dX0_putAfter_1 : decode cX0_putAfter 1 = .ok (.getfield 20, 3) := by decide +kernel
theorem dX0_putAfter_4 : decode cX0_putAfter 4 = .ok (.aload_n 0, 1) := by decide +kernel
theorem dX0_putAfter_5 : decode cX0_putAfter 5 = .ok (.getfield 7, 3) := by decide +kernel
theorem dX0_putAfter_8 : decode cX0_putAfter 8 = .ok (.aload_n 2, 1) := by decide +kernel
theorem dX0_putAfter_9 : decode cX0_putAfter 9 = .ok (.getfield 20, 3) := by decide +kernel
theorem dX0_putAfter_12 : decode cX0_putAfter 12 = .ok (.aload_n 0, 1) := by decide +kernel
theorem dX0_putAfter_13 : decode cX0_putAfter 13 = .ok (.getfield 7, 3) := by decide +kernel
theorem dX0_putAfter_16 : decode cX0_putAfter 16 = .ok (.aaload, 1) := by decide +kernel
theorem dX0_putAfter_17 : decode cX0_putAfter 17 = .ok (.aastore, 1) := by decide +kernel
theorem dX0_putAfter_18 : decode cX0_putAfter 18 = .ok (.aload_n 2, 1) := by decide +kernel
theorem dX0_putAfter_19 : decode cX0_putAfter 19 = .ok (.getfield 20, 3) := by decide +kernel
theorem dX0_putAfter_22 : decode cX0_putAfter 22 = .ok (.aload_n 0, 1) := by decide +kernel
theorem dX0_putAfter_23 : decode cX0_putAfter 23 = .ok (.getfield 7, 3) := by decide +kernel
theorem dX0_putAfter_26 : decode cX0_putAfter 26 = .ok (.aload_n 1, 1) := by decide +kernel
theorem dX0_putAfter_27 : decode cX0_putAfter 27 = .ok (.aastore, 1) := by decide +kernel
theorem dX0_putAfter_28 : decode cX0_putAfter 28 = .ok (.aload_n 0, 1) := by decide +kernel
theorem dX0_putAfter_29 : decode cX0_putAfter 29 = .ok (.getfield 30, 3) := by decide +kernel
theorem dX0_putAfter_32 : decode cX0_putAfter 32 = .ok (.aload_n 2, 1) := by decide +kernel
theorem dX0_putAfter_33 : decode cX0_putAfter 33 = .ok (.if_acmp .ne 8, 3) := by decide +kernel
theorem dX0_putAfter_36 : decode cX0_putAfter 36 = .ok (.aload_n 0, 1) := by decide +kernel
theorem dX0_putAfter_37 : decode cX0_putAfter 37 = .ok (.aload_n 1, 1) := by decide +kernel
theorem dX0_putAfter_38 : decode cX0_putAfter 38 = .ok (.putfield 30, 3) := by decide +kernel
theorem dX0_putAfter_41 : decode cX0_putAfter 41 = .ok (.return_, 1) := by decide +kernel
set_option maxRecDepth 20000 in
theorem ggX0_putBehind_X0_putAhead : GoodIn wsX0_putBehind wsX0_putAhead := goodIn_r _ [6, 7, 8, 9, 1, 19, 20, 21, 22, 23, 24, 25, 14, 15, 16, 17, 18] (by decide +kernel) (by decide +kernel)
set_option maxRecDepth 20000 in
theorem gX0_putBehind_X0_putAhead : GoodIn wsX0_putBehind (wsV RX0 33 RX0 yX0_putAhead wsX0_putAhead) := goodIn_app (goodIn_of _ (by decide +kernel)) ggX0_putBehind_X0_putAhead
set_option maxRecDepth 20000 in
theorem ggX0_putBehind_X0_putAfter : GoodIn wsX0_putBehind wsX0_putAfter := goodIn_r _ [13, 7, 8, 1, 19, 20, 21, 22, 23, 24, 25, 14, 15, 16, 17, 18] (by decide +kernel) (by decide +kernel)
set_option maxRecDepth 20000 in
theorem gX0_putBehind_X0_putAfter : GoodIn wsX0_putBehind (wsV RX0 37 RX0 yX0_putAfter wsX0_putAfter) := goodIn_app (goodIn_of _ (by decide +kernel)) ggX0_putBehind_X0_putAfter
set_option maxHeartbeats 4000000 in
set_option maxRecDepth 100000 in
theorem x_putAfter (l : Launch) (hl0 : l.stackTraces = false) (dC : Nat → ClassId) (dI : Nat → Nat → Nat) (cA : Nat → ClassId) (LP : List Nat) (k n : Nat → Nat) (I : Nat → Nat → Int32) (F : Nat → Nat → Option Nat) (J : Nat → Nat → Int32) (G : Nat → Nat → Option Nat) (q f x b d : Nat) (ln : Nat) (sz : Nat) (hq : q ∈ LP) (hkq : k q = 0) (hf : f ∈ LP) (hkf : k f = 1) (hfb : F f 1 = some b) (hb0 : b ∈ LP) (hkb : k b = 25) (hnb : n b = 5) (hx0 : x ∈ LP) (hkx : k x = 1) (hxd : F x 1 = some d) (hd0 : d ∈ LP) (hkd : k d = 25) (hnd : n d = 5) (hbd : b ≠ d) (hln : I q 0 = nI ln) (hl5 : ln < 5) (hnx : ∀ y, G d ln = some y → y ∈ LP ∧ k y = 1) : Met l yX0_putAfter wsX0_putAfter ({ frames := 0, cells := 0, slots := 0, locals := 0 } : Room) (va_Pc [.ref q, .ref f, .ref x] (ct_P (dC, dI) (po LP (hp cA k n I F J G)) (tyA cA) sz)) (va_Qv (fun (u : Unit) => True) (fun u => ct_B (dC, dI) (va_A (po LP (hp cA k n I F J G)) sz) (po LP (hp cA k n I (if F q 4 = some x then up2 F q 4 (some f) else F) J (up2 (up2 G b ln (G d ln)) d ln (some f)))) (tyA cA)) (va_A (po LP (hp cA k n I F J G)) sz)) 0 0 (va_A (po LP (hp cA k n I F J G)) sz) := by
  refine Met.ofW (cc := cX0_putAfter) (maxL := 3) (ret := none) (by decide) rfl ?_
  intro p e s m args below meth c s₁ B hml hv
  obtain ⟨rfl, hsz, hP, hK, hD0, hZ⟩ := hv
  have hx := B.exec
  have hb := B.bytes
  have hr := B.returns
  have hts := atoms_spec (ws := wsX0_putAfter) B.pre
  have hown : s.vm.findClass RX0 = some m.cls := findClass_of_methodNamed B.named
  have hlocks := B.notSynchronized
  have in0 : ∀ w ∈ u_ws RX0 TX0 5, w ∈ wsX0_putAfter := fun w h => (List.mem_cons_of_mem _ (List.mem_append_right _ h))
  have in1 : ∀ w ∈ u_ws RX1 TX1 7, w ∈ wsX0_putAfter := fun w h => (List.mem_cons_of_mem _ (List.mem_append_left _ (List.mem_append_right _ h)))
  subst hsz
  have hD := hD0.self (sz := s.heap.size)
  generalize hAe : va_A (po LP (hp cA k n I F J G)) s.heap.size = A at hD hZ ⊢
  have hA : ∀ q : Nat, s.heap.size ≤ q → A q := fun q h => by rw [← hAe]; exact Or.inr h
  have hS : va_S A s.heap s.heap [] := va_S.rf
  have hl := lv_entry ([.ref q, .ref f, .ref x]) (n := 3) (Nat.le_of_ble_eq_true rfl)
  rw [lg_entry_eq]
  generalize (lg_sl ([.ref q, .ref f, .ref x]) ++ List.replicate (3 - (lg_sl ([.ref q, .ref f, .ref x])).length) Slot.unset).toArray = ls at hl ⊢
  have hl : lv_has ls 3 [(0, .ref q), (1, .ref f), (2, .ref x)] := hl
  have hc5 : (nI ln).toNatClampNeg = ln := nI_clamp (by omega)
  refine lv_aload_n hx hb dX0_putAfter_0 rfl (lv_at hl 1 rfl) ?_
  refine hg_getF (C := RX1) (T := TX1) (N := 7) hx hb hts in1 hown hK hP hf hkf (by decide) rfl 1 (by decide) rfl (hts (.fieldLink RX0 20 "FactKeeper$Fact" "behind" "[LFactKeeper$Fact;") (by decide +kernel)) (fun _ h9 => h9) dX0_putAfter_1 ?_
  refine W.eq (g2 := F0 m 4 ls [.ref b]) (by rw [hfb]; rfl) ?_
  refine lv_aload_n hx hb dX0_putAfter_4 rfl (lv_at hl 0 rfl) ?_
  refine hg_getI (C := RX0) (T := TX0) (N := 5) hx hb hts in0 hown hK hP hq hkq (by decide) rfl 0 (by decide) rfl (hts (.fieldLink RX0 7 "FactKeeper$Chain" "lane" "I") (by decide +kernel)) (fun _ h9 => h9) dX0_putAfter_5 ?_
  rw [hln]
  refine lv_aload_n hx hb dX0_putAfter_8 rfl (lv_at hl 2 rfl) ?_
  refine hg_getF (C := RX1) (T := TX1) (N := 7) hx hb hts in1 hown hK hP hx0 hkx (by decide) rfl 1 (by decide) rfl (hts (.fieldLink RX0 20 "FactKeeper$Fact" "behind" "[LFactKeeper$Fact;") (by decide +kernel)) (fun _ h9 => h9) dX0_putAfter_9 ?_
  refine W.eq (g2 := F0 m 12 ls [.ref d, .int (nI ln), .ref b]) (by rw [hxd]; rfl) ?_
  refine lv_aload_n hx hb dX0_putAfter_12 rfl (lv_at hl 0 rfl) ?_
  refine hg_getI (C := RX0) (T := TX0) (N := 5) hx hb hts in0 hown hK hP hq hkq (by decide) rfl 0 (by decide) rfl (hts (.fieldLink RX0 7 "FactKeeper$Chain" "lane" "I") (by decide +kernel)) (fun _ h9 => h9) dX0_putAfter_13 ?_
  rw [hln]
  refine hg_aald hx hb hK hP 4 hd0 hkd (by decide) hnd rfl (vp_in_nI hl5 (by decide)) dX0_putAfter_16 ?_
  rw [hc5]
  refine hg_aastQ hx hb hK hP hD hS 4 1 hb0 hkb (by decide) hnb rfl hnx (by decide) rfl (vp_in_nI hl5 (by decide)) dX0_putAfter_17 (fun H locs hP hD hS => ?_)
  rw [hc5] at hP hD
  refine lv_aload_n hx hb dX0_putAfter_18 rfl (lv_at hl 2 rfl) ?_
  refine hg_getF (C := RX1) (T := TX1) (N := 7) hx hb hts in1 hown hK hP hx0 hkx (by decide) rfl 1 (by decide) rfl (hts (.fieldLink RX0 20 "FactKeeper$Fact" "behind" "[LFactKeeper$Fact;") (by decide +kernel)) (fun _ h9 => h9) dX0_putAfter_19 ?_
  refine W.eq (g2 := F0 m 22 ls [.ref d]) (by rw [hxd]; rfl) ?_
  refine lv_aload_n hx hb dX0_putAfter_22 rfl (lv_at hl 0 rfl) ?_
  refine hg_getI (C := RX0) (T := TX0) (N := 5) hx hb hts in0 hown hK hP hq hkq (by decide) rfl 0 (by decide) rfl (hts (.fieldLink RX0 7 "FactKeeper$Chain" "lane" "I") (by decide +kernel)) (fun _ h9 => h9) dX0_putAfter_23 ?_
  rw [hln]
  refine lv_aload_n hx hb dX0_putAfter_26 rfl (lv_at hl 1 rfl) ?_
  refine hg_aast hx hb hK hP hD hS 4 1 hd0 hkd (by decide) hnd rfl hf hkf (by decide) rfl (vp_in_nI hl5 (by decide)) dX0_putAfter_27 (fun H locs hP hD hS => ?_)
  rw [hc5] at hP hD
  refine lv_aload_n hx hb dX0_putAfter_28 rfl (lv_at hl 0 rfl) ?_
  refine hg_getF (C := RX0) (T := TX0) (N := 5) hx hb hts in0 hown hK hP hq hkq (by decide) rfl 4 (by decide) rfl (hts (.fieldLink RX0 30 "FactKeeper$Chain" "last" "LFactKeeper$Fact;") (by decide +kernel)) (fun _ h9 => h9) dX0_putAfter_29 ?_
  refine lv_aload_n hx hb dX0_putAfter_32 rfl (lv_at hl 2 rfl) ?_
  refine lv_acmp_ne (rx := F q 4) (ry := some x) (tgt := 41) hx hb dX0_putAfter_33 (by decide) (fun h4 => ?_) (fun h4 => ?_)
  · rw [if_neg h4]
    exact (W.vret hx hb hr (fun t ht hW => ⟨⟨(), rfl, trivial, by rw [ht]; exact hP, va_K.moved hW.alike hK, hD⟩, hS.F ht⟩) hS.2.2 dX0_putAfter_41)
  · have h4 : F q 4 = some x := by first | exact h4 | exact Classical.byContradiction h4
    rw [if_pos h4]
    refine lv_aload_n hx hb dX0_putAfter_36 rfl (lv_at hl 0 rfl) ?_
    refine lv_aload_n hx hb dX0_putAfter_37 rfl (lv_at hl 1 rfl) ?_
    refine hg_putF (v := some f) (ty := tyX0 4) (C := RX0) (T := TX0) (N := 5) hx hb hts in0 tyX0 tyX0_ok nmX0 hown hK hP hD hS hq hkq (by decide) rfl 4 (by decide) rfl (hts (.fieldLink RX0 30 "FactKeeper$Chain" "last" "LFactKeeper$Fact;") (by decide +kernel)) (fun _ h9 => h9) rfl (by decide +kernel) (rf_n _) (rf_f _) dX0_putAfter_38 (fun H locs hP hD hS => ?_)
    exact (W.vret hx hb hr (fun t ht hW => ⟨⟨(), rfl, trivial, by rw [ht]; exact hP, va_K.moved hW.alike hK, hD⟩, hS.F ht⟩) hS.2.2 dX0_putAfter_41)
set_option maxHeartbeats 4000000 in
set_option maxRecDepth 100000 in
theorem x_putBehind (l : Launch) (hl0 : l.stackTraces = false) (dC : Nat → ClassId) (dI : Nat → Nat → Nat) (cA : Nat → ClassId) (LP : List Nat) (k n : Nat → Nat) (I : Nat → Nat → Int32) (F : Nat → Nat → Option Nat) (J : Nat → Nat → Int32) (G : Nat → Nat → Option Nat) (q f b : Nat) (ln : Nat) (sz : Nat) (hq : q ∈ LP) (hkq : k q = 0) (hf : f ∈ LP) (hkf : k f = 1) (hfb : F f 1 = some b) (hb0 : b ∈ LP) (hkb : k b = 25) (hnb : n b = 5) (hln : I q 0 = nI ln) (hl5 : ln < 5) (hfi : ∀ x, F q 3 = some x → x ∈ LP ∧ k x = 1) (hla : ∀ x, F q 4 = some x → x ∈ LP ∧ k x = 1 ∧ ∃ d, F x 1 = some d ∧ d ∈ LP ∧ k d = 25 ∧ n d = 5 ∧ b ≠ d ∧ ∀ y, G d ln = some y → y ∈ LP ∧ k y = 1) : Met l yX0_putBehind wsX0_putBehind ({ frames := 1, cells := 0, slots := 0, locals := 22 } : Room) (va_Pc [.ref q, .ref f] (ct_P (dC, dI) (po LP (hp cA k n I F J G)) (tyA cA) sz)) (va_Qv (fun (u : (Nat → Nat → Option Nat) × (Nat → Nat → Option Nat)) => (F q 4 = none ∧ u.1 = up2 (up2 F q 3 (some f)) q 4 (some f) ∧ u.2 = up2 G b ln (F q 3)) ∨ (∃ x d, F q 4 = some x ∧ F x 1 = some d ∧ u.1 = up2 F q 4 (some f) ∧ u.2 = up2 (up2 G b ln (G d ln)) d ln (some f))) (fun u => ct_B (dC, dI) (va_A (po LP (hp cA k n I F J G)) sz) (po LP (hp cA k n I u.1 J u.2)) (tyA cA)) (va_A (po LP (hp cA k n I F J G)) sz)) 0 0 (va_A (po LP (hp cA k n I F J G)) sz) := by
  refine Met.ofW (cc := cX0_putBehind) (maxL := 2) (ret := none) (by decide) rfl ?_
  intro p e s m args below meth c s₁ B hml hv
  obtain ⟨rfl, hsz, hP, hK, hD0, hZ⟩ := hv
  have hx := B.exec
  have hb := B.bytes
  have hr := B.returns
  have hts := atoms_spec (ws := wsX0_putBehind) B.pre
  have hown : s.vm.findClass RX0 = some m.cls := findClass_of_methodNamed B.named
  have hlocks := B.notSynchronized
  have in0 : ∀ w ∈ u_ws RX0 TX0 5, w ∈ wsX0_putBehind := fun w h => (List.mem_cons_of_mem _ (List.mem_append_left _ (List.mem_append_right _ h)))
  subst hsz
  have hD := hD0.self (sz := s.heap.size)
  generalize hAe : va_A (po LP (hp cA k n I F J G)) s.heap.size = A at hD hZ ⊢
  have hA : ∀ q : Nat, s.heap.size ≤ q → A q := fun q h => by rw [← hAe]; exact Or.inr h
  have hS : va_S A s.heap s.heap [] := va_S.rf
  have hl := lv_entry ([.ref q, .ref f]) (n := 2) (Nat.le_of_ble_eq_true rfl)
  rw [lg_entry_eq]
  generalize (lg_sl ([.ref q, .ref f]) ++ List.replicate (2 - (lg_sl ([.ref q, .ref f])).length) Slot.unset).toArray = ls at hl ⊢
  have hl : lv_has ls 2 [(0, .ref q), (1, .ref f)] := hl
  refine lv_aload_n hx hb dX0_putBehind_0 rfl (lv_at hl 0 rfl) ?_
  refine hg_getF (C := RX0) (T := TX0) (N := 5) hx hb hts in0 hown hK hP hq hkq (by decide) rfl 4 (by decide) rfl (hts (.fieldLink RX0 30 "FactKeeper$Chain" "last" "LFactKeeper$Fact;") (by decide +kernel)) (fun _ h9 => h9) dX0_putBehind_1 ?_
  refine hg_nonnull (tgt := 15) hx hb dX0_putBehind_4 (by decide) (fun x h4 => ?_) (fun h4 => ?_)
  · obtain ⟨hx0, hkx, d, hxd, hd0, hkd, hnd, hbd, hnx⟩ := hla x h4
    refine lv_aload_n hx hb dX0_putBehind_15 rfl (lv_at hl 0 rfl) ?_
    refine lv_aload_n hx hb dX0_putBehind_16 rfl (lv_at hl 1 rfl) ?_
    refine lv_aload_n hx hb dX0_putBehind_17 rfl (lv_at hl 0 rfl) ?_
    refine hg_getF (C := RX0) (T := TX0) (N := 5) hx hb hts in0 hown hK hP hq hkq (by decide) rfl 4 (by decide) rfl (hts (.fieldLink RX0 30 "FactKeeper$Chain" "last" "LFactKeeper$Fact;") (by decide +kernel)) (fun _ h9 => h9) dX0_putBehind_18 ?_
    refine W.eq (g2 := F0 m 21 ls [.ref x, .ref f, .ref q]) (by rw [h4]; rfl) ?_
    refine pt_v (va_runV (As := [.ref f, .ref x]) (rest := []) ⟨hx, hb, hml, hown, hts⟩ (x_putAfter l hl0 dC dI cA LP k n I F J G q f x b d ln s.heap.size hq hkq hf hkf hfb hb0 hkb hnb hx0 hkx hxd hd0 hkd hnd hbd hln hl5 hnx) (cwV 2 hts gX0_putBehind_X0_putAfter rfl rfl rfl (by decide +kernel) ⟨Nat.le_of_ble_eq_true rfl, Nat.le_of_ble_eq_true rfl⟩) (hg_recv hK hP hD hS hA hZ hq hkq (by decide) rfl) rfl rfl hl.1 rfl (lv_room (Nat.le_of_ble_eq_true rfl)) dX0_putBehind_21 ⟨Nat.le_of_ble_eq_true rfl, Nat.le_of_ble_eq_true rfl⟩) hD hS hA (fun u H locs hw hP hD hS => ?_)
    rw [if_pos h4] at hP hD
    exact (W.vret hx hb hr (fun t ht hW => ⟨⟨(up2 F q 4 (some f), up2 (up2 G b ln (G d ln)) d ln (some f)), rfl, Or.inr ⟨x, d, h4, hxd, rfl, rfl⟩, by rw [ht]; exact hP, va_K.moved hW.alike hK, hD⟩, hS.F ht⟩) hS.2.2 dX0_putBehind_24)
  · refine lv_aload_n hx hb dX0_putBehind_7 rfl (lv_at hl 0 rfl) ?_
    refine lv_aload_n hx hb dX0_putBehind_8 rfl (lv_at hl 1 rfl) ?_
    refine pt_v (va_runV (As := [.ref f]) (rest := []) ⟨hx, hb, hml, hown, hts⟩ (x_putAhead l hl0 dC dI cA LP k n I F J G q f b ln s.heap.size hq hkq hf hkf hfb hb0 hkb hnb hln hl5 hfi) (cwV 1 hts gX0_putBehind_X0_putAhead rfl rfl rfl (by decide +kernel) ⟨Nat.le_of_ble_eq_true rfl, Nat.le_of_ble_eq_true rfl⟩) (hg_recv hK hP hD hS hA hZ hq hkq (by decide) rfl) rfl rfl hl.1 rfl (lv_room (Nat.le_of_ble_eq_true rfl)) dX0_putBehind_9 ⟨Nat.le_of_ble_eq_true rfl, Nat.le_of_ble_eq_true rfl⟩) hD hS hA (fun u H locs hw hP hD hS => ?_)
    rw [if_pos h4] at hP hD
    refine lv_goto (tgt := 24) hx hb dX0_putBehind_12 (by decide) ?_
    exact (W.vret hx hb hr (fun t ht hW => ⟨⟨(up2 (up2 F q 3 (some f)) q 4 (some f), up2 G b ln (F q 3)), rfl, Or.inl ⟨h4, rfl, rfl⟩, by rw [ht]; exact hP, va_K.moved hW.alike hK, hD⟩, hS.F ht⟩) hS.2.2 dX0_putBehind_24)
