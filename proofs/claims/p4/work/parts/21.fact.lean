theorem dX1_isThere_0 : decode cX1_isThere 0 = .ok (.aload_n 0, 1) := by decide +kernel
theorem dX1_isThere_1 : decode cX1_isThere 1 = .ok (.getfield 19, 3) := by decide +kernel
theorem dX1_isThere_4 : decode cX1_isThere 4 = .ok (.iload_n 1, 1) := by decide +kernel
theorem dX1_isThere_5 : decode cX1_isThere 5 = .ok (.if_icmp .gt 23, 3) := by decide +kernel
theorem dX1_isThere_8 : decode cX1_isThere 8 = .ok (.aload_n 0, 1) := by decide +kernel
theorem dX1_isThere_9 : decode cX1_isThere 9 = .ok (.getfield 23, 3) := by decide +kernel
theorem dX1_isThere_12 : decode cX1_isThere 12 = .ok (.iconst (-1), 1) := by decide +kernel
theorem dX1_isThere_13 : decode cX1_isThere 13 = .ok (.if_icmp .eq 11, 3) := by decide +kernel
theorem dX1_isThere_16 : decode cX1_isThere 16 = .ok (.iload_n 1, 1) := by decide +kernel
theorem dX1_isThere_17 : decode cX1_isThere 17 = .ok (.aload_n 0, 1) := by decide +kernel
theorem dX1_isThere_18 : decode cX1_isThere 18 = .ok (.getfield 23, 3) := by decide +kernel
theorem dX1_isThere_21 : decode cX1_isThere 21 = .ok (.if_icmp .ge 7, 3) := by decide +kernel
theorem dX1_isThere_24 : decode cX1_isThere 24 = .ok (.iconst 1, 1) := by decide +kernel
theorem dX1_isThere_25 : decode cX1_isThere 25 = .ok (.goto 4, 3) := by decide +kernel
theorem dX1_isThere_28 : decode cX1_isThere 28 = .ok (.iconst 0, 1) := by decide +kernel
theorem dX1_isThere_29 : decode cX1_isThere 29 = .ok (.ireturn, 1) := by decide +kernel

set_option maxHeartbeats 4000000 in
set_option maxRecDepth 100000 in
/-- X1_isThere -/
theorem x_isThere (l : Launch) (hl0 : l.stackTraces = false) (dC : Nat → ClassId) (dI : Nat → Nat → Nat) (cA : Nat → ClassId) (LP : List Nat) (k n : Nat → Nat) (I : Nat → Nat → Int32) (F : Nat → Nat → Option Nat) (J : Nat → Nat → Int32) (G : Nat → Nat → Option Nat) (f : Nat) (t : Int32) (sz : Nat) (hf : f ∈ LP) (hkf : k f = 1) : Met l yX1_isThere wsX1_isThere ({ frames := 0, cells := 0, slots := 0, locals := 0 } : Room) (va_Pc [.ref f, .int t] (ct_P (dC, dI) (po LP (hp cA k n I F J G)) (tyA cA) sz)) (va_Qi (fun (r : Int32) (u : Unit) => r = 0 ∨ r = 1) (fun u => ct_B (dC, dI) (va_A (po LP (hp cA k n I F J G)) sz) (po LP (hp cA k n I F J G)) (tyA cA)) (va_A (po LP (hp cA k n I F J G)) sz)) 0 0 (va_A (po LP (hp cA k n I F J G)) sz) := by
  refine Met.ofW (cc := cX1_isThere) (maxL := 2) (ret := (some .boolean)) (by decide) rfl ?_
  intro p e s m args below meth c s₁ B hml hv
  obtain ⟨rfl, hsz, hP, hK, hD0, hZ⟩ := hv
  have hx := B.exec
  have hb := B.bytes
  have hr := B.returns
  have hts := atoms_spec (ws := wsX1_isThere) B.pre
  have hown : s.vm.findClass RX1 = some m.cls := findClass_of_methodNamed B.named
  have hlocks := B.notSynchronized
  have in1 : ∀ w ∈ u_ws RX1 TX1 7, w ∈ wsX1_isThere := fun w h => (List.mem_cons_of_mem _ (List.mem_append_right _ h))
  subst hsz
  have hD := hD0.self (sz := s.heap.size)
  generalize hAe : va_A (po LP (hp cA k n I F J G)) s.heap.size = A at hD hZ ⊢
  have hA : ∀ q : Nat, s.heap.size ≤ q → A q := fun q h => by rw [← hAe]; exact Or.inr h
  have hS : va_S A s.heap s.heap [] := va_S.rf
  have hl := lv_entry ([.ref f, .int t]) (n := 2) (Nat.le_of_ble_eq_true rfl)
  rw [lg_entry_eq]
  generalize (lg_sl ([.ref f, .int t]) ++ List.replicate (2 - (lg_sl ([.ref f, .int t])).length) Slot.unset).toArray = ls at hl ⊢
  have hl : lv_has ls 2 [(0, .ref f), (1, .int t)] := hl
  refine lv_aload_n hx hb dX1_isThere_0 rfl (lv_at hl 0 rfl) ?_
  refine hg_getI (C := RX1) (T := TX1) (N := 7) hx hb hts in1 hown hK hP hf hkf (by decide) rfl 5 (by decide) rfl (hts (.fieldLink RX1 19 "FactKeeper$Fact" "born" "I") (by decide +kernel)) (fun _ h9 => h9) dX1_isThere_1 ?_
  refine lv_iload_n hx hb dX1_isThere_4 rfl (lv_at hl 1 rfl) ?_
  refine lv_icmp_gt (tgt := 28) hx hb dX1_isThere_5 (by decide) (fun c_1 => ?_) (fun c_1 => ?_)
  · skip
    refine lv_iconst (v := 0) hx hb dX1_isThere_28 (by decide) ?_
    exact (W.zret (v := 0) hx hb hr (by decide) (fun t ht hW => ⟨⟨0, (), rfl, Or.inl rfl, by rw [ht]; exact hP, va_K.moved hW.alike hK, hD⟩, hS.F ht⟩) hS.2.2 dX1_isThere_29)
  · skip
    refine lv_aload_n hx hb dX1_isThere_8 rfl (lv_at hl 0 rfl) ?_
    refine hg_getI (C := RX1) (T := TX1) (N := 7) hx hb hts in1 hown hK hP hf hkf (by decide) rfl 6 (by decide) rfl (hts (.fieldLink RX1 23 "FactKeeper$Fact" "died" "I") (by decide +kernel)) (fun _ h9 => h9) dX1_isThere_9 ?_
    refine lv_iconst (v := (-1)) hx hb dX1_isThere_12 (by decide) ?_
    refine lv_icmp_eq (tgt := 24) hx hb dX1_isThere_13 (by decide) (fun c_2 => ?_) (fun c_2 => ?_)
    · skip
      refine lv_iconst (v := 1) hx hb dX1_isThere_24 (by decide) ?_
      refine lv_goto (tgt := 29) hx hb dX1_isThere_25 (by decide) ?_
      exact (W.zret (v := 1) hx hb hr (by decide) (fun t ht hW => ⟨⟨1, (), rfl, Or.inr rfl, by rw [ht]; exact hP, va_K.moved hW.alike hK, hD⟩, hS.F ht⟩) hS.2.2 dX1_isThere_29)
    · skip
      refine lv_iload_n hx hb dX1_isThere_16 rfl (lv_at hl 1 rfl) ?_
      refine lv_aload_n hx hb dX1_isThere_17 rfl (lv_at hl 0 rfl) ?_
      refine hg_getI (C := RX1) (T := TX1) (N := 7) hx hb hts in1 hown hK hP hf hkf (by decide) rfl 6 (by decide) rfl (hts (.fieldLink RX1 23 "FactKeeper$Fact" "died" "I") (by decide +kernel)) (fun _ h9 => h9) dX1_isThere_18 ?_
      refine lv_icmp_ge (tgt := 28) hx hb dX1_isThere_21 (by decide) (fun c_3 => ?_) (fun c_3 => ?_)
      · skip
        refine lv_iconst (v := 0) hx hb dX1_isThere_28 (by decide) ?_
        exact (W.zret (v := 0) hx hb hr (by decide) (fun t ht hW => ⟨⟨0, (), rfl, Or.inl rfl, by rw [ht]; exact hP, va_K.moved hW.alike hK, hD⟩, hS.F ht⟩) hS.2.2 dX1_isThere_29)
      · skip
        refine lv_iconst (v := 1) hx hb dX1_isThere_24 (by decide) ?_
        refine lv_goto (tgt := 29) hx hb dX1_isThere_25 (by decide) ?_
        exact (W.zret (v := 1) hx hb hr (by decide) (fun t ht hW => ⟨⟨1, (), rfl, Or.inr rfl, by rw [ht]; exact hP, va_K.moved hW.alike hK, hD⟩, hS.F ht⟩) hS.2.2 dX1_isThere_29)

theorem dX1_isThereNow_0 : decode cX1_isThereNow 0 = .ok (.aload_n 0, 1) := by decide +kernel
theorem dX1_isThereNow_1 : decode cX1_isThereNow 1 = .ok (.getfield 23, 3) := by decide +kernel
theorem dX1_isThereNow_4 : decode cX1_isThereNow 4 = .ok (.iconst (-1), 1) := by decide +kernel
theorem dX1_isThereNow_5 : decode cX1_isThereNow 5 = .ok (.if_icmp .ne 7, 3) := by decide +kernel
theorem dX1_isThereNow_8 : decode cX1_isThereNow 8 = .ok (.iconst 1, 1) := by decide +kernel
theorem dX1_isThereNow_9 : decode cX1_isThereNow 9 = .ok (.goto 4, 3) := by decide +kernel
theorem dX1_isThereNow_12 : decode cX1_isThereNow 12 = .ok (.iconst 0, 1) := by decide +kernel
theorem dX1_isThereNow_13 : decode cX1_isThereNow 13 = .ok (.ireturn, 1) := by decide +kernel

set_option maxHeartbeats 4000000 in
set_option maxRecDepth 100000 in
/-- X1_isThereNow -/
theorem x_isThereNow (l : Launch) (hl0 : l.stackTraces = false) (dC : Nat → ClassId) (dI : Nat → Nat → Nat) (cA : Nat → ClassId) (LP : List Nat) (k n : Nat → Nat) (I : Nat → Nat → Int32) (F : Nat → Nat → Option Nat) (J : Nat → Nat → Int32) (G : Nat → Nat → Option Nat) (f : Nat) (sz : Nat) (hf : f ∈ LP) (hkf : k f = 1) : Met l yX1_isThereNow wsX1_isThereNow ({ frames := 0, cells := 0, slots := 0, locals := 0 } : Room) (va_Pc [.ref f] (ct_P (dC, dI) (po LP (hp cA k n I F J G)) (tyA cA) sz)) (va_Qi (fun (r : Int32) (u : Unit) => r = 0 ∨ r = 1) (fun u => ct_B (dC, dI) (va_A (po LP (hp cA k n I F J G)) sz) (po LP (hp cA k n I F J G)) (tyA cA)) (va_A (po LP (hp cA k n I F J G)) sz)) 0 0 (va_A (po LP (hp cA k n I F J G)) sz) := by
  refine Met.ofW (cc := cX1_isThereNow) (maxL := 1) (ret := (some .boolean)) (by decide) rfl ?_
  intro p e s m args below meth c s₁ B hml hv
  obtain ⟨rfl, hsz, hP, hK, hD0, hZ⟩ := hv
  have hx := B.exec
  have hb := B.bytes
  have hr := B.returns
  have hts := atoms_spec (ws := wsX1_isThereNow) B.pre
  have hown : s.vm.findClass RX1 = some m.cls := findClass_of_methodNamed B.named
  have hlocks := B.notSynchronized
  have in1 : ∀ w ∈ u_ws RX1 TX1 7, w ∈ wsX1_isThereNow := fun w h => (List.mem_cons_of_mem _ (List.mem_append_right _ h))
  subst hsz
  have hD := hD0.self (sz := s.heap.size)
  generalize hAe : va_A (po LP (hp cA k n I F J G)) s.heap.size = A at hD hZ ⊢
  have hA : ∀ q : Nat, s.heap.size ≤ q → A q := fun q h => by rw [← hAe]; exact Or.inr h
  have hS : va_S A s.heap s.heap [] := va_S.rf
  have hl := lv_entry ([.ref f]) (n := 1) (Nat.le_of_ble_eq_true rfl)
  rw [lg_entry_eq]
  generalize (lg_sl ([.ref f]) ++ List.replicate (1 - (lg_sl ([.ref f])).length) Slot.unset).toArray = ls at hl ⊢
  have hl : lv_has ls 1 [(0, .ref f)] := hl
  refine lv_aload_n hx hb dX1_isThereNow_0 rfl (lv_at hl 0 rfl) ?_
  refine hg_getI (C := RX1) (T := TX1) (N := 7) hx hb hts in1 hown hK hP hf hkf (by decide) rfl 6 (by decide) rfl (hts (.fieldLink RX1 23 "FactKeeper$Fact" "died" "I") (by decide +kernel)) (fun _ h9 => h9) dX1_isThereNow_1 ?_
  refine lv_iconst (v := (-1)) hx hb dX1_isThereNow_4 (by decide) ?_
  refine lv_icmp_ne (tgt := 12) hx hb dX1_isThereNow_5 (by decide) (fun c_1 => ?_) (fun c_1 => ?_)
  · skip
    refine lv_iconst (v := 0) hx hb dX1_isThereNow_12 (by decide) ?_
    exact (W.zret (v := 0) hx hb hr (by decide) (fun t ht hW => ⟨⟨0, (), rfl, Or.inl rfl, by rw [ht]; exact hP, va_K.moved hW.alike hK, hD⟩, hS.F ht⟩) hS.2.2 dX1_isThereNow_13)
  · skip
    refine lv_iconst (v := 1) hx hb dX1_isThereNow_8 (by decide) ?_
    refine lv_goto (tgt := 13) hx hb dX1_isThereNow_9 (by decide) ?_
    exact (W.zret (v := 1) hx hb hr (by decide) (fun t ht hW => ⟨⟨1, (), rfl, Or.inr rfl, by rw [ht]; exact hP, va_K.moved hW.alike hK, hD⟩, hS.F ht⟩) hS.2.2 dX1_isThereNow_13)

theorem dX11_isIn_0 : decode cX11_isIn 0 = .ok (.iload_n 0, 1) := by decide +kernel
theorem dX11_isIn_1 : decode cX11_isIn 1 = .ok (.iload_n 1, 1) := by decide +kernel
theorem dX11_isIn_2 : decode cX11_isIn 2 = .ok (.ishr, 1) := by decide +kernel
theorem dX11_isIn_3 : decode cX11_isIn 3 = .ok (.iconst 1, 1) := by decide +kernel
theorem dX11_isIn_4 : decode cX11_isIn 4 = .ok (.iand, 1) := by decide +kernel
theorem dX11_isIn_5 : decode cX11_isIn 5 = .ok (.iconst 1, 1) := by decide +kernel
theorem dX11_isIn_6 : decode cX11_isIn 6 = .ok (.if_icmp .ne 7, 3) := by decide +kernel
theorem dX11_isIn_9 : decode cX11_isIn 9 = .ok (.iconst 1, 1) := by decide +kernel
theorem dX11_isIn_10 : decode cX11_isIn 10 = .ok (.goto 4, 3) := by decide +kernel
theorem dX11_isIn_13 : decode cX11_isIn 13 = .ok (.iconst 0, 1) := by decide +kernel
theorem dX11_isIn_14 : decode cX11_isIn 14 = .ok (.ireturn, 1) := by decide +kernel

set_option maxHeartbeats 4000000 in
set_option maxRecDepth 100000 in
/-- X11_isIn -/
theorem x_isIn (l : Launch) (hl0 : l.stackTraces = false) (dC : Nat → ClassId) (dI : Nat → Nat → Nat) (cA : Nat → ClassId) (LP : List Nat) (k n : Nat → Nat) (I : Nat → Nat → Int32) (F : Nat → Nat → Option Nat) (J : Nat → Nat → Int32) (G : Nat → Nat → Option Nat) (mask : Int32) (j : Int32) (sz : Nat)  : Met l yX11_isIn wsX11_isIn ({ frames := 0, cells := 0, slots := 0, locals := 0 } : Room) (va_Pc [.int mask, .int j] (ct_P (dC, dI) (po LP (hp cA k n I F J G)) (tyA cA) sz)) (va_Qi (fun (r : Int32) (u : Unit) => r = 0 ∨ r = 1) (fun u => ct_B (dC, dI) (va_A (po LP (hp cA k n I F J G)) sz) (po LP (hp cA k n I F J G)) (tyA cA)) (va_A (po LP (hp cA k n I F J G)) sz)) 0 0 (va_A (po LP (hp cA k n I F J G)) sz) := by
  refine Met.ofW (cc := cX11_isIn) (maxL := 2) (ret := (some .boolean)) (by decide) rfl ?_
  intro p e s m args below meth c s₁ B hml hv
  obtain ⟨rfl, hsz, hP, hK, hD0, hZ⟩ := hv
  have hx := B.exec
  have hb := B.bytes
  have hr := B.returns
  have hts := atoms_spec (ws := wsX11_isIn) B.pre
  have hown : s.vm.findClass RX11 = some m.cls := findClass_of_methodNamed B.named
  have hlocks := B.notSynchronized
  subst hsz
  have hD := hD0.self (sz := s.heap.size)
  generalize hAe : va_A (po LP (hp cA k n I F J G)) s.heap.size = A at hD hZ ⊢
  have hA : ∀ q : Nat, s.heap.size ≤ q → A q := fun q h => by rw [← hAe]; exact Or.inr h
  have hS : va_S A s.heap s.heap [] := va_S.rf
  have hl := lv_entry ([.int mask, .int j]) (n := 2) (Nat.le_of_ble_eq_true rfl)
  rw [lg_entry_eq]
  generalize (lg_sl ([.int mask, .int j]) ++ List.replicate (2 - (lg_sl ([.int mask, .int j])).length) Slot.unset).toArray = ls at hl ⊢
  have hl : lv_has ls 2 [(0, .int mask), (1, .int j)] := hl
  refine lv_iload_n hx hb dX11_isIn_0 rfl (lv_at hl 0 rfl) ?_
  refine lv_iload_n hx hb dX11_isIn_1 rfl (lv_at hl 1 rfl) ?_
  refine lv_ishr hx hb dX11_isIn_2 ?_
  refine lv_topi (fun z_1 ez_1 => ?_)
  refine lv_iconst (v := 1) hx hb dX11_isIn_3 (by decide) ?_
  refine lv_iand hx hb dX11_isIn_4 ?_
  refine lv_topi (fun z_2 ez_2 => ?_)
  refine lv_iconst (v := 1) hx hb dX11_isIn_5 (by decide) ?_
  refine lv_icmp_ne (tgt := 13) hx hb dX11_isIn_6 (by decide) (fun c_3 => ?_) (fun c_3 => ?_)
  · skip
    refine lv_iconst (v := 0) hx hb dX11_isIn_13 (by decide) ?_
    exact (W.zret (v := 0) hx hb hr (by decide) (fun t ht hW => ⟨⟨0, (), rfl, Or.inl rfl, by rw [ht]; exact hP, va_K.moved hW.alike hK, hD⟩, hS.F ht⟩) hS.2.2 dX11_isIn_14)
  · skip
    refine lv_iconst (v := 1) hx hb dX11_isIn_9 (by decide) ?_
    refine lv_goto (tgt := 14) hx hb dX11_isIn_10 (by decide) ?_
    exact (W.zret (v := 1) hx hb hr (by decide) (fun t ht hW => ⟨⟨1, (), rfl, Or.inr rfl, by rw [ht]; exact hP, va_K.moved hW.alike hK, hD⟩, hS.F ht⟩) hS.2.2 dX11_isIn_14)

theorem dX1_fits_0 : decode cX1_fits 0 = .ok (.iconst 0, 1) := by decide +kernel
theorem dX1_fits_1 : decode cX1_fits 1 = .ok (.istore_n 3, 1) := by decide +kernel
theorem dX1_fits_2 : decode cX1_fits 2 = .ok (.iload_n 3, 1) := by decide +kernel
theorem dX1_fits_3 : decode cX1_fits 3 = .ok (.iconst 4, 1) := by decide +kernel
theorem dX1_fits_4 : decode cX1_fits 4 = .ok (.if_icmp .ge 31, 3) := by decide +kernel
theorem dX1_fits_7 : decode cX1_fits 7 = .ok (.iload_n 1, 1) := by decide +kernel
theorem dX1_fits_8 : decode cX1_fits 8 = .ok (.iload_n 3, 1) := by decide +kernel
theorem dX1_fits_9 : decode cX1_fits 9 = .ok (.invokestatic 26, 3) := by decide +kernel
theorem dX1_fits_12 : decode cX1_fits 12 = .ok (.ifCond .eq 17, 3) := by decide +kernel
theorem dX1_fits_15 : decode cX1_fits 15 = .ok (.aload_n 0, 1) := by decide +kernel
theorem dX1_fits_16 : decode cX1_fits 16 = .ok (.getfield 9, 3) := by decide +kernel
theorem dX1_fits_19 : decode cX1_fits 19 = .ok (.iload_n 3, 1) := by decide +kernel
theorem dX1_fits_20 : decode cX1_fits 20 = .ok (.iaload, 1) := by decide +kernel
theorem dX1_fits_21 : decode cX1_fits 21 = .ok (.aload_n 2, 1) := by decide +kernel
theorem dX1_fits_22 : decode cX1_fits 22 = .ok (.iload_n 3, 1) := by decide +kernel
theorem dX1_fits_23 : decode cX1_fits 23 = .ok (.iaload, 1) := by decide +kernel
theorem dX1_fits_24 : decode cX1_fits 24 = .ok (.if_icmp .eq 5, 3) := by decide +kernel
theorem dX1_fits_27 : decode cX1_fits 27 = .ok (.iconst 0, 1) := by decide +kernel
theorem dX1_fits_28 : decode cX1_fits 28 = .ok (.ireturn, 1) := by decide +kernel
theorem dX1_fits_29 : decode cX1_fits 29 = .ok (.iinc 3 1, 3) := by decide +kernel
theorem dX1_fits_32 : decode cX1_fits 32 = .ok (.goto (-30), 3) := by decide +kernel
theorem dX1_fits_35 : decode cX1_fits 35 = .ok (.iconst 1, 1) := by decide +kernel
theorem dX1_fits_36 : decode cX1_fits 36 = .ok (.ireturn, 1) := by decide +kernel

set_option maxRecDepth 20000 in
theorem ggX1_fits_X11_isIn : GoodIn wsX1_fits wsX11_isIn := goodIn_r _ [4] (by decide +kernel) (by decide +kernel)
set_option maxRecDepth 20000 in
theorem gX1_fits_X11_isIn_n26 : GoodIn wsX1_fits (wsX11_isIn) := ggX1_fits_X11_isIn

set_option maxHeartbeats 4000000 in
set_option maxRecDepth 100000 in
/-- X1_fits -/
theorem x_fits (l : Launch) (hl0 : l.stackTraces = false) (dC : Nat → ClassId) (dI : Nat → Nat → Nat) (cA : Nat → ClassId) (LP : List Nat) (k n : Nat → Nat) (I : Nat → Nat → Int32) (F : Nat → Nat → Option Nat) (J : Nat → Nat → Int32) (G : Nat → Nat → Option Nat) (f : Nat) (mask : Int32) (w : Nat) (cf : Nat) (sz : Nat) (hf : f ∈ LP) (hkf : k f = 1) (hfc : F f 0 = some cf) (hc0 : cf ∈ LP) (hkc : k cf = 20) (hnc : n cf = 4) (hw0 : w ∈ LP) (hkw : k w = 20) (hnw : n w = 4) : Met l yX1_fits wsX1_fits ({ frames := 1, cells := 0, slots := 0, locals := 21 } : Room) (va_Pc [.ref f, .int mask, .ref w] (ct_P (dC, dI) (po LP (hp cA k n I F J G)) (tyA cA) sz)) (va_Qi (fun (r : Int32) (u : Unit) => r = 0 ∨ r = 1) (fun u => ct_B (dC, dI) (va_A (po LP (hp cA k n I F J G)) sz) (po LP (hp cA k n I F J G)) (tyA cA)) (va_A (po LP (hp cA k n I F J G)) sz)) 0 0 (va_A (po LP (hp cA k n I F J G)) sz) := by
  refine Met.ofW (cc := cX1_fits) (maxL := 4) (ret := (some .boolean)) (by decide) rfl ?_
  intro p e s m args below meth c s₁ B hml hv
  obtain ⟨rfl, hsz, hP, hK, hD0, hZ⟩ := hv
  have hx := B.exec
  have hb := B.bytes
  have hr := B.returns
  have hts := atoms_spec (ws := wsX1_fits) B.pre
  have hown : s.vm.findClass RX1 = some m.cls := findClass_of_methodNamed B.named
  have hlocks := B.notSynchronized
  have in1 : ∀ w ∈ u_ws RX1 TX1 7, w ∈ wsX1_fits := fun w h => (List.mem_cons_of_mem _ (List.mem_append_right _ h))
  subst hsz
  have hD := hD0.self (sz := s.heap.size)
  generalize hAe : va_A (po LP (hp cA k n I F J G)) s.heap.size = A at hD hZ ⊢
  have hA : ∀ q : Nat, s.heap.size ≤ q → A q := fun q h => by rw [← hAe]; exact Or.inr h
  have hS : va_S A s.heap s.heap [] := va_S.rf
  have hl := lv_entry ([.ref f, .int mask, .ref w]) (n := 4) (Nat.le_of_ble_eq_true rfl)
  rw [lg_entry_eq]
  generalize (lg_sl ([.ref f, .int mask, .ref w]) ++ List.replicate (4 - (lg_sl ([.ref f, .int mask, .ref w])).length) Slot.unset).toArray = ls at hl ⊢
  have hl : lv_has ls 4 [(0, .ref f), (1, .int mask), (2, .ref w)] := hl
  refine lv_iconst (v := 0) hx hb dX1_fits_0 (by decide) ?_
  refine lv_istore_n (lv' := [(3, .int 0), (0, .ref f), (1, .int mask), (2, .ref w)]) hx hb dX1_fits_1 rfl hl (by decide) rfl (fun ls hl => ?_)
  refine hg_loop (nL := 4) 4 (fun i => [(3, .int (nI i)), (0, .ref f), (1, .int mask), (2, .ref w)]) hP hD hS (by show lv_has ls 4 [(3, .int (nI 0)), (0, .ref f), (1, .int mask), (2, .ref w)]; rw [nI_0]; exact hl) (fun i hi H locs ls hP hD hS hl ih => ?_) (fun H locs ls hP hD hS hl => ?_)
  · skip
    have hl : lv_has ls 4 [(3, .int (nI i)), (0, .ref f), (1, .int mask), (2, .ref w)] := hl
    refine lv_iload_n hx hb dX1_fits_2 rfl (lv_at hl 0 rfl) ?_
    refine lv_iconst (v := 4) hx hb dX1_fits_3 (by decide) ?_
    refine lv_icmp_ge (tgt := 35) hx hb dX1_fits_4 (by decide) (fun c_1 => absurd c_1 (nI_ge (b := 4) hi (by decide))) (fun c_1 => ?_)
    refine lv_iload_n hx hb dX1_fits_7 rfl (lv_at hl 2 rfl) ?_
    refine lv_iload_n hx hb dX1_fits_8 rfl (lv_at hl 0 rfl) ?_
    refine pt_i (va_runSN (As := [.int mask, .int (nI i)]) (rest := []) ⟨hx, hb, hml, hown, hts⟩ (x_isIn l hl0 dC dI cA LP k n I F J G mask (nI i) H.size ) ⟨va_cnB 2 hts gX1_fits_X11_isIn_n26 rfl rfl rfl hZ.2.2.1.2.2.2.2.2.2.1 (hts (.initialized RX11) (by decide +kernel)) (by decide +kernel) ⟨Nat.le_of_ble_eq_true rfl, Nat.le_of_ble_eq_true rfl⟩, hts (.static yX11_isIn) (by decide +kernel), trivial⟩ (pt_pre hP hD hK hS hA hZ) rfl rfl hl.1 rfl (lv_room (Nat.le_of_ble_eq_true rfl)) dX1_fits_9 ⟨Nat.le_of_ble_eq_true rfl, Nat.le_of_ble_eq_true rfl⟩) hD hS hA (fun r_2 u H locs w_3 hP hD hS => ?_)
    rcases w_3 with rfl | rfl
    · skip
      refine lv_if_eq (tgt := 29) hx hb dX1_fits_12 (by decide) (fun _ => ?_) (fun c_4 => absurd c_4 (by decide))
      refine lv_iinc (v := nI (i + 1)) (lv' := [(3, .int (nI (i + 1))), (0, .ref f), (1, .int mask), (2, .ref w)]) hx hb dX1_fits_29 hl (k := 0) rfl (nI_1 i) (by decide) rfl (fun ls hl => ?_)
      refine lv_goto (tgt := 2) hx hb dX1_fits_32 (by decide) ?_
      exact ih _ _ _ hP hD hS (lv_sub hl [0, 1, 2, 3] rfl)
    · skip
      refine lv_if_eq (tgt := 29) hx hb dX1_fits_12 (by decide) (fun c_5 => absurd c_5 (by decide)) (fun _ => ?_)
      refine lv_aload_n hx hb dX1_fits_15 rfl (lv_at hl 1 rfl) ?_
      refine hg_getF (C := RX1) (T := TX1) (N := 7) hx hb hts in1 hown hK hP hf hkf (by decide) rfl 0 (by decide) rfl (hts (.fieldLink RX1 9 "FactKeeper$Fact" "columns" "[I") (by decide +kernel)) (fun _ h9 => h9) dX1_fits_16 ?_
      refine W.eq (g2 := F0 m 19 ls [.ref cf]) (by rw [hfc]; rfl) ?_
      refine lv_iload_n hx hb dX1_fits_19 rfl (lv_at hl 0 rfl) ?_
      refine hg_iald hx hb hK hP 0 hc0 hkc hnc rfl (vp_in_nI hi (by decide)) dX1_fits_20 ?_
      refine lv_aload_n hx hb dX1_fits_21 rfl (lv_at hl 3 rfl) ?_
      refine lv_iload_n hx hb dX1_fits_22 rfl (lv_at hl 0 rfl) ?_
      refine hg_iald hx hb hK hP 0 hw0 hkw hnw rfl (vp_in_nI hi (by decide)) dX1_fits_23 ?_
      refine lv_icmp_eq (tgt := 29) hx hb dX1_fits_24 (by decide) (fun c_6 => ?_) (fun c_6 => ?_)
      · skip
        refine lv_iinc (v := nI (i + 1)) (lv' := [(3, .int (nI (i + 1))), (0, .ref f), (1, .int mask), (2, .ref w)]) hx hb dX1_fits_29 hl (k := 0) rfl (nI_1 i) (by decide) rfl (fun ls hl => ?_)
        refine lv_goto (tgt := 2) hx hb dX1_fits_32 (by decide) ?_
        exact ih _ _ _ hP hD hS (lv_sub hl [0, 1, 2, 3] rfl)
      · skip
        refine lv_iconst (v := 0) hx hb dX1_fits_27 (by decide) ?_
        exact (W.zret (v := 0) hx hb hr (by decide) (fun t ht hW => ⟨⟨0, (), rfl, Or.inl rfl, by rw [ht]; exact hP, va_K.moved hW.alike hK, hD⟩, hS.F ht⟩) hS.2.2 dX1_fits_28)
  · skip
    have hl : lv_has ls 4 [(3, .int 4), (0, .ref f), (1, .int mask), (2, .ref w)] := hl
    refine lv_iload_n hx hb dX1_fits_2 rfl (lv_at hl 0 rfl) ?_
    refine lv_iconst (v := 4) hx hb dX1_fits_3 (by decide) ?_
    refine lv_icmp_ge (tgt := 35) hx hb dX1_fits_4 (by decide) (fun _ => ?_) (fun c_7 => absurd c_7 (by decide))
    refine lv_iconst (v := 1) hx hb dX1_fits_35 (by decide) ?_
    exact (W.zret (v := 1) hx hb hr (by decide) (fun t ht hW => ⟨⟨1, (), rfl, Or.inr rfl, by rw [ht]; exact hP, va_K.moved hW.alike hK, hD⟩, hS.F ht⟩) hS.2.2 dX1_fits_36)
