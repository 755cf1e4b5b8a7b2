/-! Chain (class X0); its decode rows stand here until part 05 is laid -/
theorem dX0_putAhead_0 : decode cX0_putAhead 0 = .ok (.aload_n 1, 1) := by decide +kernel
theorem dX0_putAhead_1 : decode cX0_putAhead 1 = .ok (.getfield 20, 3) := by decide +kernel
theorem dX0_putAhead_4 : decode cX0_putAhead 4 = .ok (.aload_n 0, 1) := by decide +kernel
theorem dX0_putAhead_5 : decode cX0_putAhead 5 = .ok (.getfield 7, 3) := by decide +kernel
theorem dX0_putAhead_8 : decode cX0_putAhead 8 = .ok (.aload_n 0, 1) := by decide +kernel
theorem dX0_putAhead_9 : decode cX0_putAhead 9 = .ok (.getfield 26, 3) := by decide +kernel
theorem dX0_putAhead_12 : decode cX0_putAhead 12 = .ok (.aastore, 1) := by decide +kernel
theorem dX0_putAhead_13 : decode cX0_putAhead 13 = .ok (.aload_n 0, 1) := by decide +kernel
theorem dX0_putAhead_14 : decode cX0_putAhead 14 = .ok (.aload_n 1, 1) := by decide +kernel
theorem dX0_putAhead_15 : decode cX0_putAhead 15 = .ok (.putfield 26, 3) := by decide +kernel
theorem dX0_putAhead_18 : decode cX0_putAhead 18 = .ok (.aload_n 0, 1) := by decide +kernel
theorem dX0_putAhead_19 : decode cX0_putAhead 19 = .ok (.getfield 30, 3) := by decide +kernel
theorem dX0_putAhead_22 : decode cX0_putAhead 22 = .ok (.ifnonnull 8, 3) := by decide +kernel
theorem dX0_putAhead_25 : decode cX0_putAhead 25 = .ok (.aload_n 0, 1) := by decide +kernel
theorem dX0_putAhead_26 : decode cX0_putAhead 26 = .ok (.aload_n 1, 1) := by decide +kernel
theorem dX0_putAhead_27 : decode cX0_putAhead 27 = .ok (.putfield 30, 3) := by decide +kernel
theorem dX0_putAhead_30 : decode cX0_putAhead 30 = .ok (.return_, 1) := by decide +kernel
theorem dX0_empty_0 : decode cX0_empty 0 = .ok (.aload_n 0, 1) := by decide +kernel
theorem dX0_empty_1 : decode cX0_empty 1 = .ok (.aconst_null, 1) := by decide +kernel
theorem dX0_empty_2 : decode cX0_empty 2 = .ok (.putfield 26, 3) := by decide +kernel
theorem dX0_empty_5 : decode cX0_empty 5 = .ok (.aload_n 0, 1) := by decide +kernel
theorem dX0_empty_6 : decode cX0_empty 6 = .ok (.aconst_null, 1) := by decide +kernel
theorem dX0_empty_7 : decode cX0_empty 7 = .ok (.putfield 30, 3) := by decide +kernel
theorem dX0_empty_10 : decode cX0_empty 10 = .ok (.return_, 1) := by decide +kernel
set_option maxHeartbeats 4000000 in
set_option maxRecDepth 100000 in
theorem x_empty (l : Launch) (hl0 : l.stackTraces = false) (dC : Nat → ClassId) (dI : Nat → Nat → Nat) (cA : Nat → ClassId) (LP : List Nat) (k n : Nat → Nat) (I : Nat → Nat → Int32) (F : Nat → Nat → Option Nat) (J : Nat → Nat → Int32) (G : Nat → Nat → Option Nat) (q : Nat) (sz : Nat) (hq : q ∈ LP) (hkq : k q = 0) : Met l yX0_empty wsX0_empty ({ frames := 0, cells := 0, slots := 0, locals := 0 } : Room) (va_Pc [.ref q] (ct_P (dC, dI) (po LP (hp cA k n I F J G)) (tyA cA) sz)) (va_Qv (fun (u : Unit) => True) (fun u => ct_B (dC, dI) (va_A (po LP (hp cA k n I F J G)) sz) (po LP (hp cA k n I (up2 (up2 F q 3 none) q 4 none) J G)) (tyA cA)) (va_A (po LP (hp cA k n I F J G)) sz)) 0 0 (va_A (po LP (hp cA k n I F J G)) sz) := by
  refine Met.ofW (cc := cX0_empty) (maxL := 1) (ret := none) (by decide) rfl ?_
  intro p e s m args below meth c s₁ B hml hv
  obtain ⟨rfl, hsz, hP, hK, hD0, hZ⟩ := hv
  have hx := B.exec
  have hb := B.bytes
  have hr := B.returns
  have hts := atoms_spec (ws := wsX0_empty) B.pre
  have hown : s.vm.findClass RX0 = some m.cls := findClass_of_methodNamed B.named
  have hlocks := B.notSynchronized
  have in0 : ∀ w ∈ u_ws RX0 TX0 5, w ∈ wsX0_empty := fun w h => (List.mem_cons_of_mem _ (List.mem_append_right _ h))
  subst hsz
  have hD := hD0.self (sz := s.heap.size)
  generalize hAe : va_A (po LP (hp cA k n I F J G)) s.heap.size = A at hD hZ ⊢
  have hA : ∀ q : Nat, s.heap.size ≤ q → A q := fun q h => by rw [← hAe]; exact Or.inr h
  have hS : va_S A s.heap s.heap [] := va_S.rf
  have hl := lv_entry ([.ref q]) (n := 1) (Nat.le_of_ble_eq_true rfl)
  rw [lg_entry_eq]
  generalize (lg_sl ([.ref q]) ++ List.replicate (1 - (lg_sl ([.ref q])).length) Slot.unset).toArray = ls at hl ⊢
  have hl : lv_has ls 1 [(0, .ref q)] := hl
  refine lv_aload_n hx hb dX0_empty_0 rfl (lv_at hl 0 rfl) ?_
  refine lv_null hx hb dX0_empty_1 ?_
  refine hg_putF (v := none) (ty := tyX0 3) (C := RX0) (T := TX0) (N := 5) hx hb hts in0 tyX0 tyX0_ok nmX0 hown hK hP hD hS hq hkq (by decide) rfl 3 (by decide) rfl (hts (.fieldLink RX0 26 "FactKeeper$Chain" "first" "LFactKeeper$Fact;") (by decide +kernel)) (fun _ h9 => h9) rfl (by decide +kernel) (rf_n _) (rf_f _) dX0_empty_2 (fun H locs hP hD hS => ?_)
  refine lv_aload_n hx hb dX0_empty_5 rfl (lv_at hl 0 rfl) ?_
  refine lv_null hx hb dX0_empty_6 ?_
  refine hg_putF (v := none) (ty := tyX0 4) (C := RX0) (T := TX0) (N := 5) hx hb hts in0 tyX0 tyX0_ok nmX0 hown hK hP hD hS hq hkq (by decide) rfl 4 (by decide) rfl (hts (.fieldLink RX0 30 "FactKeeper$Chain" "last" "LFactKeeper$Fact;") (by decide +kernel)) (fun _ h9 => h9) rfl (by decide +kernel) (rf_n _) (rf_f _) dX0_empty_7 (fun H locs hP hD hS => ?_)
  exact (W.vret hx hb hr (fun t ht hW => ⟨⟨(), rfl, trivial, by rw [ht]; exact hP, va_K.moved hW.alike hK, hD⟩, hS.F ht⟩) hS.2.2 dX0_empty_10)
set_option maxHeartbeats 4000000 in
set_option maxRecDepth 100000 in
theorem x_putAhead (l : Launch) (hl0 : l.stackTraces = false) (dC : Nat → ClassId) (dI : Nat → Nat → Nat) (cA : Nat → ClassId) (LP : List Nat) (k n : Nat → Nat) (I : Nat → Nat → Int32) (F : Nat → Nat → Option Nat) (J : Nat → Nat → Int32) (G : Nat → Nat → Option Nat) (q f b : Nat) (ln : Nat) (sz : Nat) (hq : q ∈ LP) (hkq : k q = 0) (hf : f ∈ LP) (hkf : k f = 1) (hfb : F f 1 = some b) (hb0 : b ∈ LP) (hkb : k b = 25) (hnb : n b = 5) (hln : I q 0 = nI ln) (hl5 : ln < 5) (hfi : ∀ x, F q 3 = some x → x ∈ LP ∧ k x = 1) : Met l yX0_putAhead wsX0_putAhead ({ frames := 0, cells := 0, slots := 0, locals := 0 } : Room) (va_Pc [.ref q, .ref f] (ct_P (dC, dI) (po LP (hp cA k n I F J G)) (tyA cA) sz)) (va_Qv (fun (u : Unit) => True) (fun u => ct_B (dC, dI) (va_A (po LP (hp cA k n I F J G)) sz) (po LP (hp cA k n I (if F q 4 = none then up2 (up2 F q 3 (some f)) q 4 (some f) else up2 F q 3 (some f)) J (up2 G b ln (F q 3)))) (tyA cA)) (va_A (po LP (hp cA k n I F J G)) sz)) 0 0 (va_A (po LP (hp cA k n I F J G)) sz) := by
  refine Met.ofW (cc := cX0_putAhead) (maxL := 2) (ret := none) (by decide) rfl ?_
  intro p e s m args below meth c s₁ B hml hv
  obtain ⟨rfl, hsz, hP, hK, hD0, hZ⟩ := hv
  have hx := B.exec
  have hb := B.bytes
  have hr := B.returns
  have hts := atoms_spec (ws := wsX0_putAhead) B.pre
  have hown : s.vm.findClass RX0 = some m.cls := findClass_of_methodNamed B.named
  have hlocks := B.notSynchronized
  have in0 : ∀ w ∈ u_ws RX0 TX0 5, w ∈ wsX0_putAhead := fun w h => (List.mem_cons_of_mem _ (List.mem_append_right _ h))
  have in1 : ∀ w ∈ u_ws RX1 TX1 7, w ∈ wsX0_putAhead := fun w h => (List.mem_cons_of_mem _ (List.mem_append_left _ (List.mem_append_right _ h)))
  subst hsz
  have hD := hD0.self (sz := s.heap.size)
  generalize hAe : va_A (po LP (hp cA k n I F J G)) s.heap.size = A at hD hZ ⊢
  have hA : ∀ q : Nat, s.heap.size ≤ q → A q := fun q h => by rw [← hAe]; exact Or.inr h
  have hS : va_S A s.heap s.heap [] := va_S.rf
  have hl := lv_entry ([.ref q, .ref f]) (n := 2) (Nat.le_of_ble_eq_true rfl)
  rw [lg_entry_eq]
  generalize (lg_sl ([.ref q, .ref f]) ++ List.replicate (2 - (lg_sl ([.ref q, .ref f])).length) Slot.unset).toArray = ls at hl ⊢
  have hl : lv_has ls 2 [(0, .ref q), (1, .ref f)] := hl
  have hc5 : (nI ln).toNatClampNeg = ln := nI_clamp (by omega)
  refine lv_aload_n hx hb dX0_putAhead_0 rfl (lv_at hl 1 rfl) ?_
  refine hg_getF (C := RX1) (T := TX1) (N := 7) hx hb hts in1 hown hK hP hf hkf (by decide) rfl 1 (by decide) rfl (hts (.fieldLink RX0 20 "FactKeeper$Fact" "behind" "[LFactKeeper$Fact;") (by decide +kernel)) (fun _ h9 => h9) dX0_putAhead_1 ?_
  refine W.eq (g2 := F0 m 4 ls [.ref b]) (by rw [hfb]; rfl) ?_
  refine lv_aload_n hx hb dX0_putAhead_4 rfl (lv_at hl 0 rfl) ?_
  refine hg_getI (C := RX0) (T := TX0) (N := 5) hx hb hts in0 hown hK hP hq hkq (by decide) rfl 0 (by decide) rfl (hts (.fieldLink RX0 7 "FactKeeper$Chain" "lane" "I") (by decide +kernel)) (fun _ h9 => h9) dX0_putAhead_5 ?_
  rw [hln]
  refine lv_aload_n hx hb dX0_putAhead_8 rfl (lv_at hl 0 rfl) ?_
  refine hg_getF (C := RX0) (T := TX0) (N := 5) hx hb hts in0 hown hK hP hq hkq (by decide) rfl 3 (by decide) rfl (hts (.fieldLink RX0 26 "FactKeeper$Chain" "first" "LFactKeeper$Fact;") (by decide +kernel)) (fun _ h9 => h9) dX0_putAhead_9 ?_
  refine hg_aastQ hx hb hK hP hD hS 4 1 hb0 hkb (by decide) hnb rfl hfi (by decide) rfl (vp_in_nI hl5 (by decide)) dX0_putAhead_12 (fun H locs hP hD hS => ?_)
  rw [hc5] at hP hD
  refine lv_aload_n hx hb dX0_putAhead_13 rfl (lv_at hl 0 rfl) ?_
  refine lv_aload_n hx hb dX0_putAhead_14 rfl (lv_at hl 1 rfl) ?_
  refine hg_putF (v := some f) (ty := tyX0 3) (C := RX0) (T := TX0) (N := 5) hx hb hts in0 tyX0 tyX0_ok nmX0 hown hK hP hD hS hq hkq (by decide) rfl 3 (by decide) rfl (hts (.fieldLink RX0 26 "FactKeeper$Chain" "first" "LFactKeeper$Fact;") (by decide +kernel)) (fun _ h9 => h9) rfl (by decide +kernel) (rf_n _) (rf_f _) dX0_putAhead_15 (fun H locs hP hD hS => ?_)
  refine lv_aload_n hx hb dX0_putAhead_18 rfl (lv_at hl 0 rfl) ?_
  refine hg_getF (C := RX0) (T := TX0) (N := 5) hx hb hts in0 hown hK hP hq hkq (by decide) rfl 4 (by decide) rfl (hts (.fieldLink RX0 30 "FactKeeper$Chain" "last" "LFactKeeper$Fact;") (by decide +kernel)) (fun _ h9 => h9) dX0_putAhead_19 ?_
  rw [up2_k F q q (some f) (show 4 ≠ 3 by decide)]
  refine hg_nonnull (tgt := 30) hx hb dX0_putAhead_22 (by decide) (fun x hx4 => ?_) (fun h4 => ?_)
  · have hi : (if F q 4 = none then up2 (up2 F q 3 (some f)) q 4 (some f) else up2 F q 3 (some f)) = up2 F q 3 (some f) := if_neg (by rw [hx4]; exact fun q => by cases q)
    rw [hi]
    exact (W.vret hx hb hr (fun t ht hW => ⟨⟨(), rfl, trivial, by rw [ht]; exact hP, va_K.moved hW.alike hK, hD⟩, hS.F ht⟩) hS.2.2 dX0_putAhead_30)
  · rw [if_pos h4]
    refine lv_aload_n hx hb dX0_putAhead_25 rfl (lv_at hl 0 rfl) ?_
    refine lv_aload_n hx hb dX0_putAhead_26 rfl (lv_at hl 1 rfl) ?_
    refine hg_putF (v := some f) (ty := tyX0 4) (C := RX0) (T := TX0) (N := 5) hx hb hts in0 tyX0 tyX0_ok nmX0 hown hK hP hD hS hq hkq (by decide) rfl 4 (by decide) rfl (hts (.fieldLink RX0 30 "FactKeeper$Chain" "last" "LFactKeeper$Fact;") (by decide +kernel)) (fun _ h9 => h9) rfl (by decide +kernel) (rf_n _) (rf_f _) dX0_putAhead_27 (fun H locs hP hD hS => ?_)
    exact (W.vret hx hb hr (fun t ht hW => ⟨⟨(), rfl, trivial, by rw [ht]; exact hP, va_K.moved hW.alike hK, hD⟩, hS.F ht⟩) hS.2.2 dX0_putAhead_30)
