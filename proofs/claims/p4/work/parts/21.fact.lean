theorem dX1_isThere_0 : decode cX1_isThere 0 = .ok (.aload_n 0, 1) := by decide +kernel
theorem dX1_isThere_1 : decode cX1_isThere 1 = .ok (.getfield 19, 3) := by decide +kernel
theorem dX1_isThere_4 : decode cX1_isThere 4 = .ok (.iload_n 1, 1) := by decide +kernel
theorem dX1_isThere_5 : decode cX1_isThere 5 = .ok (.if_icmp .gt 23, 3) := by decide +kernel
theorem dX1_isThere_8 : decode cX1_isThere 8 = .ok (.aload_n 0, 1) := by decide +kernel
theorem dX1_isThere_9 : decode cX1_isThere 9 = .ok (.getfield 23, 3) := by decide +kernel
theorem dX1_isThere_12 : decode cX1_isThere 12 = .ok (.iconst (-1), 1) := by decide +kernel
theorem dX1_isThere_13 : decode cX1_isThere 13 = .ok (.if_icmp .eq 11, 3) := by decide +kernel
theorem dX1_isThere_16 : decode cX1_isThere 16 = .ok (.iload_n 1, 1) := by decide +kernel
theorem dX1_isThere_17 : decode cX1_isThere 17 = .ok (.aload_n 0, 1) := by decide +kernel
theorem dX1_isThere_18 : decode cX1_isThere 18 = .ok (.getfield 23, 3) := by decide +kernel
theorem dX1_isThere_21 : decode cX1_isThere 21 = .ok (.if_icmp .ge 7, 3) := by decide +kernel
theorem dX1_isThere_24 : decode cX1_isThere 24 = .ok (.iconst 1, 1) := by decide +kernel
theorem dX1_isThere_25 : decode cX1_isThere 25 = .ok (.goto 4, 3) := by decide +kernel
theorem dX1_isThere_28 : decode cX1_isThere 28 = .ok (.iconst 0, 1) := by decide +kernel
theorem dX1_isThere_29 : decode cX1_isThere 29 = .ok (.ireturn, 1) := by decide +kernel

set_option maxHeartbeats 4000000 in
set_option maxRecDepth 100000 in
/-- X1_isThere -/
theorem x_isThere (l : Launch) (hl0 : l.stackTraces = false) (dC : Nat → ClassId) (dI : Nat → Nat → Nat) (cA : Nat → ClassId) (LP : List Nat) (k n : Nat → Nat) (I : Nat → Nat → Int32) (F : Nat → Nat → Option Nat) (J : Nat → Nat → Int32) (G : Nat → Nat → Option Nat) (f : Nat) (t : Int32) (sz : Nat) (hf : f ∈ LP) (hkf : k f = 1) : Met l yX1_isThere wsX1_isThere ({ frames := 0, cells := 0, slots := 0, locals := 0 } : Room) (va_Pc [.ref f, .int t] (ct_P (dC, dI) (po LP (hp cA k n I F J G)) (tyA cA) sz)) (va_Qi (fun (r : Int32) (u : Unit) => r = 0 ∨ r = 1) (fun u => ct_B (dC, dI) (va_A (po LP (hp cA k n I F J G)) sz) (po LP (hp cA k n I F J G)) (tyA cA)) (va_A (po LP (hp cA k n I F J G)) sz)) 0 0 (va_A (po LP (hp cA k n I F J G)) sz) := by
  refine Met.ofW (cc := cX1_isThere) (maxL := 2) (ret := (some .boolean)) (by decide) rfl ?_
  intro p e s m args below meth c s₁ B hml hv
  obtain ⟨rfl, hsz, hP, hK, hD0, hZ⟩ := hv
  have hx := B.exec
  have hb := B.bytes
  have hr := B.returns
  have hts := atoms_spec (ws := wsX1_isThere) B.pre
  have hown : s.vm.findClass RX1 = some m.cls := findClass_of_methodNamed B.named
  have hlocks := B.notSynchronized
  have in1 : ∀ w ∈ u_ws RX1 TX1 7, w ∈ wsX1_isThere := fun w h => (List.mem_cons_of_mem _ (List.mem_append_right _ h))
  subst hsz
  have hD := hD0.self (sz := s.heap.size)
  generalize hAe : va_A (po LP (hp cA k n I F J G)) s.heap.size = A at hD hZ ⊢
  have hA : ∀ q : Nat, s.heap.size ≤ q → A q := fun q h => by rw [← hAe]; exact Or.inr h
  have hS : va_S A s.heap s.heap [] := va_S.rf
  have hl := lv_entry ([.ref f, .int t]) (n := 2) (Nat.le_of_ble_eq_true rfl)
  rw [lg_entry_eq]
  generalize (lg_sl ([.ref f, .int t]) ++ List.replicate (2 - (lg_sl ([.ref f, .int t])).length) Slot.unset).toArray = ls at hl ⊢
  have hl : lv_has ls 2 [(0, .ref f), (1, .int t)] := hl
  refine lv_aload_n hx hb dX1_isThere_0 rfl (lv_at hl 0 rfl) ?_
  refine hg_getI (C := RX1) (T := TX1) (N := 7) hx hb hts in1 hown hK hP hf hkf (by decide) rfl 5 (by decide) rfl (hts (.fieldLink RX1 19 "FactKeeper$Fact" "born" "I") (by decide +kernel)) (fun _ h9 => h9) dX1_isThere_1 ?_
  refine lv_iload_n hx hb dX1_isThere_4 rfl (lv_at hl 1 rfl) ?_
  refine lv_icmp_gt (tgt := 28) hx hb dX1_isThere_5 (by decide) (fun c_1 => ?_) (fun c_1 => ?_)
  · skip
    refine lv_iconst (v := 0) hx hb dX1_isThere_28 (by decide) ?_
    exact (W.zret (v := 0) hx hb hr (by decide) (fun t ht hW => ⟨⟨0, (), rfl, Or.inl rfl, by rw [ht]; exact hP, va_K.moved hW.alike hK, hD⟩, hS.F ht⟩) hS.2.2 dX1_isThere_29)
  · skip
    refine lv_aload_n hx hb dX1_isThere_8 rfl (lv_at hl 0 rfl) ?_
    refine hg_getI (C := RX1) (T := TX1) (N := 7) hx hb hts in1 hown hK hP hf hkf (by decide) rfl 6 (by decide) rfl (hts (.fieldLink RX1 23 "FactKeeper$Fact" "died" "I") (by decide +kernel)) (fun _ h9 => h9) dX1_isThere_9 ?_
    refine lv_iconst (v := (-1)) hx hb dX1_isThere_12 (by decide) ?_
    refine lv_icmp_eq (tgt := 24) hx hb dX1_isThere_13 (by decide) (fun c_2 => ?_) (fun c_2 => ?_)
    · skip
      refine lv_iconst (v := 1) hx hb dX1_isThere_24 (by decide) ?_
      refine lv_goto (tgt := 29) hx hb dX1_isThere_25 (by decide) ?_
      exact (W.zret (v := 1) hx hb hr (by decide) (fun t ht hW => ⟨⟨1, (), rfl, Or.inr rfl, by rw [ht]; exact hP, va_K.moved hW.alike hK, hD⟩, hS.F ht⟩) hS.2.2 dX1_isThere_29)
    · skip
      refine lv_iload_n hx hb dX1_isThere_16 rfl (lv_at hl 1 rfl) ?_
      refine lv_aload_n hx hb dX1_isThere_17 rfl (lv_at hl 0 rfl) ?_
      refine hg_getI (C := RX1) (T := TX1) (N := 7) hx hb hts in1 hown hK hP hf hkf (by decide) rfl 6 (by decide) rfl (hts (.fieldLink RX1 23 "FactKeeper$Fact" "died" "I") (by decide +kernel)) (fun _ h9 => h9) dX1_isThere_18 ?_
      refine lv_icmp_ge (tgt := 28) hx hb dX1_isThere_21 (by decide) (fun c_3 => ?_) (fun c_3 => ?_)
      · skip
        refine lv_iconst (v := 0) hx hb dX1_isThere_28 (by decide) ?_
        exact (W.zret (v := 0) hx hb hr (by decide) (fun t ht hW => ⟨⟨0, (), rfl, Or.inl rfl, by rw [ht]; exact hP, va_K.moved hW.alike hK, hD⟩, hS.F ht⟩) hS.2.2 dX1_isThere_29)
      · skip
        refine lv_iconst (v := 1) hx hb dX1_isThere_24 (by decide) ?_
        refine lv_goto (tgt := 29) hx hb dX1_isThere_25 (by decide) ?_
        exact (W.zret (v := 1) hx hb hr (by decide) (fun t ht hW => ⟨⟨1, (), rfl, Or.inr rfl, by rw [ht]; exact hP, va_K.moved hW.alike hK, hD⟩, hS.F ht⟩) hS.2.2 dX1_isThere_29)

theorem dX1_isThereNow_0 : decode cX1_isThereNow 0 = .ok (.aload_n 0, 1) := by decide +kernel
theorem dX1_isThereNow_1 : decode cX1_isThereNow 1 = .ok (.getfield 23, 3) := by decide +kernel
theorem dX1_isThereNow_4 : decode cX1_isThereNow 4 = .ok (.iconst (-1), 1) := by decide +kernel
theorem dX1_isThereNow_5 : decode cX1_isThereNow 5 = .ok (.if_icmp .ne 7, 3) := by decide +kernel
theorem dX1_isThereNow_8 : decode cX1_isThereNow 8 = .ok (.iconst 1, 1) := by decide +kernel
theorem dX1_isThereNow_9 : decode cX1_isThereNow 9 = .ok (.goto 4, 3) := by decide +kernel
theorem dX1_isThereNow_12 : decode cX1_isThereNow 12 = .ok (.iconst 0, 1) := by decide +kernel
theorem dX1_isThereNow_13 : decode cX1_isThereNow 13 = .ok (.ireturn, 1) := by decide +kernel

set_option maxHeartbeats 4000000 in
set_option maxRecDepth 100000 in
/-- X1_isThereNow -/
theorem x_isThereNow (l : Launch) (hl0 : l.stackTraces = false) (dC : Nat → ClassId) (dI : Nat → Nat → Nat) (cA : Nat → ClassId) (LP : List Nat) (k n : Nat → Nat) (I : Nat → Nat → Int32) (F : Nat → Nat → Option Nat) (J : Nat → Nat → Int32) (G : Nat → Nat → Option Nat) (f : Nat) (sz : Nat) (hf : f ∈ LP) (hkf : k f = 1) : Met l yX1_isThereNow wsX1_isThereNow ({ frames := 0, cells := 0, slots := 0, locals := 0 } : Room) (va_Pc [.ref f] (ct_P (dC, dI) (po LP (hp cA k n I F J G)) (tyA cA) sz)) (va_Qi (fun (r : Int32) (u : Unit) => r = 0 ∨ r = 1) (fun u => ct_B (dC, dI) (va_A (po LP (hp cA k n I F J G)) sz) (po LP (hp cA k n I F J G)) (tyA cA)) (va_A (po LP (hp cA k n I F J G)) sz)) 0 0 (va_A (po LP (hp cA k n I F J G)) sz) := by
  refine Met.ofW (cc := cX1_isThereNow) (maxL := 1) (ret := (some .boolean)) (by decide) rfl ?_
  intro p e s m args below meth c s₁ B hml hv
  obtain ⟨rfl, hsz, hP, hK, hD0, hZ⟩ := hv
  have hx := B.exec
  have hb := B.bytes
  have hr := B.returns
  have hts := atoms_spec (ws := wsX1_isThereNow) B.pre
  have hown : s.vm.findClass RX1 = some m.cls := findClass_of_methodNamed B.named
  have hlocks := B.notSynchronized
  have in1 : ∀ w ∈ u_ws RX1 TX1 7, w ∈ wsX1_isThereNow := fun w h => (List.mem_cons_of_mem _ (List.mem_append_right _ h))
  subst hsz
  have hD := hD0.self (sz := s.heap.size)
  generalize hAe : va_A (po LP (hp cA k n I F J G)) s.heap.size = A at hD hZ ⊢
  have hA : ∀ q : Nat, s.heap.size ≤ q → A q := fun q h => by rw [← hAe]; exact Or.inr h
  have hS : va_S A s.heap s.heap [] := va_S.rf
  have hl := lv_entry ([.ref f]) (n := 1) (Nat.le_of_ble_eq_true rfl)
  rw [lg_entry_eq]
  generalize (lg_sl ([.ref f]) ++ List.replicate (1 - (lg_sl ([.ref f])).length) Slot.unset).toArray = ls at hl ⊢
  have hl : lv_has ls 1 [(0, .ref f)] := hl
  refine lv_aload_n hx hb dX1_isThereNow_0 rfl (lv_at hl 0 rfl) ?_
  refine hg_getI (C := RX1) (T := TX1) (N := 7) hx hb hts in1 hown hK hP hf hkf (by decide) rfl 6 (by decide) rfl (hts (.fieldLink RX1 23 "FactKeeper$Fact" "died" "I") (by decide +kernel)) (fun _ h9 => h9) dX1_isThereNow_1 ?_
  refine lv_iconst (v := (-1)) hx hb dX1_isThereNow_4 (by decide) ?_
  refine lv_icmp_ne (tgt := 12) hx hb dX1_isThereNow_5 (by decide) (fun c_1 => ?_) (fun c_1 => ?_)
  · skip
    refine lv_iconst (v := 0) hx hb dX1_isThereNow_12 (by decide) ?_
    exact (W.zret (v := 0) hx hb hr (by decide) (fun t ht hW => ⟨⟨0, (), rfl, Or.inl rfl, by rw [ht]; exact hP, va_K.moved hW.alike hK, hD⟩, hS.F ht⟩) hS.2.2 dX1_isThereNow_13)
  · skip
    refine lv_iconst (v := 1) hx hb dX1_isThereNow_8 (by decide) ?_
    refine lv_goto (tgt := 13) hx hb dX1_isThereNow_9 (by decide) ?_
    exact (W.zret (v := 1) hx hb hr (by decide) (fun t ht hW => ⟨⟨1, (), rfl, Or.inr rfl, by rw [ht]; exact hP, va_K.moved hW.alike hK, hD⟩, hS.F ht⟩) hS.2.2 dX1_isThereNow_13)
