theorem i_n9 {x : Int32} (h : ¬ x ≤ 9) : ¬ x < 10 := fun q => h (i_l10 q)
theorem i_921 {x : Int32} (h : x ≤ 9) : x ≤ 21 := by
  rw [Int32.le_iff_toInt_le] at h ⊢
  rw [show (9 : Int32).toInt = 9 by decide] at h
  rw [show (21 : Int32).toInt = 21 by decide]
  omega

set_option maxHeartbeats 4000000 in
set_option maxRecDepth 100000 in
/-- count -/
theorem m_count (l : Launch) (hl0 : l.stackTraces = false) (dC : Nat → ClassId) (dI : Nat → Nat → Nat) (mo : Nat) (m1 : Nat) (m3 : Nat) (m4 : Nat) (m5 : Nat) (m6 : Nat) (m7 : Nat) (m8 : Nat) (m9 : Nat) (m11 : Nat) (m12 : Nat) (m13 : Nat) (m14 : Nat) (m15 : Nat) (m16 : Nat) (m17 : Nat) (m18 : Nat) (m19 : Nat) (m24 : Nat) (m26 : Nat) (m28 : Nat) (m29 : Nat) (m30 : Nat) (m31 : Nat) (m32 : Nat) (m33 : Nat) (m34 : Nat) (m35 : Nat) (m36 : Nat) (m44 : Nat) (m45 : Nat) (m46 : Nat) (m47 : Nat) (m48 : Nat) (m50 : Nat) (m51 : Nat) (m52 : Nat) (m53 : Nat) (m54 : Nat) (k28 : ClassId) (wh : Int32) (sz : Nat)  : Met l yX12_count wsX12_count ({ frames := 1, cells := 0, slots := 0, locals := 21 } : Room) (va_Pc [.ref mo, .int wh] (ct_P (dC, dI) [(mo, .inr (12, [.int 0, .ref m1, .int 0, .ref m3, .ref m4, .ref m5, .ref m6, .ref m7, .ref m8, .ref m9, .int 0, .ref m11, .ref m12, .ref m13, .ref m14, .ref m15, .ref m16, .ref m17, .ref m18, .ref m19, .int 0, .int 0, .int 0, .int 0, .ref m24, .int 0, .ref m26, .int 0, .ref m28, .ref m29, .ref m30, .ref m31, .ref m32, .ref m33, .ref m34, .ref m35, .ref m36, .int 0, .int 0, .int 0, .int 0, .int 0, .int (-1), .int 0, .ref m44, .ref m45, .ref m46, .ref m47, .ref m48, .int 0, .ref m50, .ref m51, .ref m52, .ref m53, .ref m54, .int 0, .int 0])), (m28, .inl (k28, 10, .inl (fun _ => 0)))] [(k28, .boolean)] sz)) (va_Qi (fun (r : Int32) (u : Int32) => (u = 1 ∧ (wh < 0 ∨ ¬ wh ≤ 21)) ∨ (u = 0 ∧ ¬ (wh < 0 ∨ ¬ wh ≤ 21) ∧ r = sp_cnt wh)) (fun (u : Int32) => ct_B (dC, dI) (va_A [(mo, .inr (12, [.int 0, .ref m1, .int 0, .ref m3, .ref m4, .ref m5, .ref m6, .ref m7, .ref m8, .ref m9, .int 0, .ref m11, .ref m12, .ref m13, .ref m14, .ref m15, .ref m16, .ref m17, .ref m18, .ref m19, .int 0, .int 0, .int 0, .int 0, .ref m24, .int 0, .ref m26, .int 0, .ref m28, .ref m29, .ref m30, .ref m31, .ref m32, .ref m33, .ref m34, .ref m35, .ref m36, .int 0, .int 0, .int 0, .int 0, .int 0, .int (-1), .int 0, .ref m44, .ref m45, .ref m46, .ref m47, .ref m48, .int 0, .ref m50, .ref m51, .ref m52, .ref m53, .ref m54, .int 0, .int 0])), (m28, .inl (k28, 10, .inl (fun _ => 0)))] sz) [(mo, .inr (12, [.int u, .ref m1, .int 0, .ref m3, .ref m4, .ref m5, .ref m6, .ref m7, .ref m8, .ref m9, .int 0, .ref m11, .ref m12, .ref m13, .ref m14, .ref m15, .ref m16, .ref m17, .ref m18, .ref m19, .int 0, .int 0, .int 0, .int 0, .ref m24, .int 0, .ref m26, .int 0, .ref m28, .ref m29, .ref m30, .ref m31, .ref m32, .ref m33, .ref m34, .ref m35, .ref m36, .int 0, .int 0, .int 0, .int 0, .int 0, .int (-1), .int 0, .ref m44, .ref m45, .ref m46, .ref m47, .ref m48, .int 0, .ref m50, .ref m51, .ref m52, .ref m53, .ref m54, .int 0, .int 0]))] []) (va_A [(mo, .inr (12, [.int 0, .ref m1, .int 0, .ref m3, .ref m4, .ref m5, .ref m6, .ref m7, .ref m8, .ref m9, .int 0, .ref m11, .ref m12, .ref m13, .ref m14, .ref m15, .ref m16, .ref m17, .ref m18, .ref m19, .int 0, .int 0, .int 0, .int 0, .ref m24, .int 0, .ref m26, .int 0, .ref m28, .ref m29, .ref m30, .ref m31, .ref m32, .ref m33, .ref m34, .ref m35, .ref m36, .int 0, .int 0, .int 0, .int 0, .int 0, .int (-1), .int 0, .ref m44, .ref m45, .ref m46, .ref m47, .ref m48, .int 0, .ref m50, .ref m51, .ref m52, .ref m53, .ref m54, .int 0, .int 0])), (m28, .inl (k28, 10, .inl (fun _ => 0)))] sz)) 0 0 (va_A [(mo, .inr (12, [.int 0, .ref m1, .int 0, .ref m3, .ref m4, .ref m5, .ref m6, .ref m7, .ref m8, .ref m9, .int 0, .ref m11, .ref m12, .ref m13, .ref m14, .ref m15, .ref m16, .ref m17, .ref m18, .ref m19, .int 0, .int 0, .int 0, .int 0, .ref m24, .int 0, .ref m26, .int 0, .ref m28, .ref m29, .ref m30, .ref m31, .ref m32, .ref m33, .ref m34, .ref m35, .ref m36, .int 0, .int 0, .int 0, .int 0, .int 0, .int (-1), .int 0, .ref m44, .ref m45, .ref m46, .ref m47, .ref m48, .int 0, .ref m50, .ref m51, .ref m52, .ref m53, .ref m54, .int 0, .int 0])), (m28, .inl (k28, 10, .inl (fun _ => 0)))] sz) := by
  refine Met.ofW (cc := cX12_count) (maxL := 4) (ret := (some .int)) (by decide) rfl ?_
  intro p e s m args below meth c s₁ B hml hv
  obtain ⟨rfl, hsz, hP, hK, hD0, hZ⟩ := hv
  have hx := B.exec
  have hb := B.bytes
  have hr := B.returns
  have hts := atoms_spec (ws := wsX12_count) B.pre
  have hown : s.vm.findClass RX12 = some m.cls := findClass_of_methodNamed B.named
  have hlocks := B.notSynchronized
  have in12 : ∀ w ∈ u_ws RX12 TX12 57, w ∈ wsX12_count := fun w h => (List.mem_cons_of_mem _ (List.mem_append_right _ h))
  subst hsz
  have hD := hD0.self (sz := s.heap.size)
  generalize hAe : va_A [(mo, .inr (12, [.int 0, .ref m1, .int 0, .ref m3, .ref m4, .ref m5, .ref m6, .ref m7, .ref m8, .ref m9, .int 0, .ref m11, .ref m12, .ref m13, .ref m14, .ref m15, .ref m16, .ref m17, .ref m18, .ref m19, .int 0, .int 0, .int 0, .int 0, .ref m24, .int 0, .ref m26, .int 0, .ref m28, .ref m29, .ref m30, .ref m31, .ref m32, .ref m33, .ref m34, .ref m35, .ref m36, .int 0, .int 0, .int 0, .int 0, .int 0, .int (-1), .int 0, .ref m44, .ref m45, .ref m46, .ref m47, .ref m48, .int 0, .ref m50, .ref m51, .ref m52, .ref m53, .ref m54, .int 0, .int 0])), (m28, .inl (k28, 10, .inl (fun _ => 0)))] s.heap.size = A at hD hZ ⊢
  have hA : ∀ q : Nat, s.heap.size ≤ q → A q := fun q h => by rw [← hAe]; exact Or.inr h
  have hS : va_S A s.heap s.heap [] := va_S.rf
  have hP : va_P (dC, dI) vwCl [(mo, .inr (12, [.int 0, .ref m1, .int 0, .ref m3, .ref m4, .ref m5, .ref m6, .ref m7, .ref m8, .ref m9, .int 0, .ref m11, .ref m12, .ref m13, .ref m14, .ref m15, .ref m16, .ref m17, .ref m18, .ref m19, .int 0, .int 0, .int 0, .int 0, .ref m24, .int 0, .ref m26, .int 0, .ref m28, .ref m29, .ref m30, .ref m31, .ref m32, .ref m33, .ref m34, .ref m35, .ref m36, .int 0, .int 0, .int 0, .int 0, .int 0, .int (-1), .int 0, .ref m44, .ref m45, .ref m46, .ref m47, .ref m48, .int 0, .ref m50, .ref m51, .ref m52, .ref m53, .ref m54, .int 0, .int 0])), (m28, .inl (k28, 10, .inl (fun _ => 0)))] s.heap := hP
  have hK : va_K (dC, dI) vwCl [(k28, .boolean)] s := hK
  have hD : va_D A [(mo, .inr (12, [.int 0, .ref m1, .int 0, .ref m3, .ref m4, .ref m5, .ref m6, .ref m7, .ref m8, .ref m9, .int 0, .ref m11, .ref m12, .ref m13, .ref m14, .ref m15, .ref m16, .ref m17, .ref m18, .ref m19, .int 0, .int 0, .int 0, .int 0, .ref m24, .int 0, .ref m26, .int 0, .ref m28, .ref m29, .ref m30, .ref m31, .ref m32, .ref m33, .ref m34, .ref m35, .ref m36, .int 0, .int 0, .int 0, .int 0, .int 0, .int (-1), .int 0, .ref m44, .ref m45, .ref m46, .ref m47, .ref m48, .int 0, .ref m50, .ref m51, .ref m52, .ref m53, .ref m54, .int 0, .int 0])), (m28, .inl (k28, 10, .inl (fun _ => 0)))] := hD
  have hl := lv_entry ([.ref mo, .int wh]) (n := 4) (Nat.le_of_ble_eq_true rfl)
  rw [lg_entry_eq]
  generalize (lg_sl ([.ref mo, .int wh]) ++ List.replicate (4 - (lg_sl ([.ref mo, .int wh])).length) Slot.unset).toArray = ls at hl ⊢
  have hl : lv_has ls 4 [(0, .ref mo), (1, .int wh)] := hl
  refine lv_aload_n hx hb dX12_count_0 rfl (lv_at hl 0 rfl) ?_
  refine lv_iload_n hx hb dX12_count_1 rfl (lv_at hl 1 rfl) ?_
  refine lv_if_lt (tgt := 23) hx hb dX12_count_2 (by decide) (fun c_1 => ?_) (fun c_1 => ?_)
  · skip
    refine lv_iconst (v := 1) hx hb dX12_count_23 (by decide) ?_
    refine lv_goto (tgt := 28) hx hb dX12_count_24 (by decide) ?_
    refine ct_i (wr := [(m28, .inl (k28, 10, .inl (fun _ => 0)))]) (tyr := [(k28, .boolean)]) (va_runV (As := [.int 1]) (rest := []) ⟨hx, hb, hml, hown, hts⟩ (c_fails1 l hl0 dC dI mo m1 m3 m4 m5 m6 m7 m8 m9 m11 m12 m13 m14 m15 m16 m17 m18 m19 m24 m26 m28 m29 m30 m31 m32 m33 m34 m35 m36 m44 m45 m46 m47 m48 m50 m51 m52 m53 m54 0 0 0 (-1) 0 0 s.heap.size ) (cwV 1 hts gX12_count_X12_fails rfl rfl rfl (by decide +kernel) ⟨Nat.le_of_ble_eq_true rfl, Nat.le_of_ble_eq_true rfl⟩) (ct_preV (ci := 12) (q0 := 0) hP hD hK hS hA hZ rfl rfl [0] [] rfl (by decide) rfl) rfl rfl hl.1 rfl (lv_room (Nat.le_of_ble_eq_true rfl)) dX12_count_28 ⟨Nat.le_of_ble_eq_true rfl, Nat.le_of_ble_eq_true rfl⟩) hP hD hK hS hA [0] [1] [0] rfl rfl (by decide) (by decide) rfl (fun r_2 u H locs w_3 hP hD hK hS => ?_)
    try dsimp only at w_3
    have hP : va_P (dC, dI) vwCl [(m28, .inl (k28, 10, .inl (fun _ => 0))), (mo, .inr (12, [.int 1, .ref m1, .int 0, .ref m3, .ref m4, .ref m5, .ref m6, .ref m7, .ref m8, .ref m9, .int 0, .ref m11, .ref m12, .ref m13, .ref m14, .ref m15, .ref m16, .ref m17, .ref m18, .ref m19, .int 0, .int 0, .int 0, .int 0, .ref m24, .int 0, .ref m26, .int 0, .ref m28, .ref m29, .ref m30, .ref m31, .ref m32, .ref m33, .ref m34, .ref m35, .ref m36, .int 0, .int 0, .int 0, .int 0, .int 0, .int (-1), .int 0, .ref m44, .ref m45, .ref m46, .ref m47, .ref m48, .int 0, .ref m50, .ref m51, .ref m52, .ref m53, .ref m54, .int 0, .int 0]))] H := hP
    have hD : va_D A [(m28, .inl (k28, 10, .inl (fun _ => 0))), (mo, .inr (12, [.int 1, .ref m1, .int 0, .ref m3, .ref m4, .ref m5, .ref m6, .ref m7, .ref m8, .ref m9, .int 0, .ref m11, .ref m12, .ref m13, .ref m14, .ref m15, .ref m16, .ref m17, .ref m18, .ref m19, .int 0, .int 0, .int 0, .int 0, .ref m24, .int 0, .ref m26, .int 0, .ref m28, .ref m29, .ref m30, .ref m31, .ref m32, .ref m33, .ref m34, .ref m35, .ref m36, .int 0, .int 0, .int 0, .int 0, .int 0, .int (-1), .int 0, .ref m44, .ref m45, .ref m46, .ref m47, .ref m48, .int 0, .ref m50, .ref m51, .ref m52, .ref m53, .ref m54, .int 0, .int 0]))] := hD
    have hK : va_K (dC, dI) vwCl [(k28, .boolean)] s := hK
    obtain rfl : r_2 = 1 := w_3
    refine lv_if_eq (tgt := 36) hx hb dX12_count_31 (by decide) (fun c_4 => absurd c_4 (by decide)) (fun _ => ?_)
    refine lv_iconst (v := 0) hx hb dX12_count_34 (by decide) ?_
    have hP9 := hP.sub (ws' := [(mo, .inr (12, [.int 1, .ref m1, .int 0, .ref m3, .ref m4, .ref m5, .ref m6, .ref m7, .ref m8, .ref m9, .int 0, .ref m11, .ref m12, .ref m13, .ref m14, .ref m15, .ref m16, .ref m17, .ref m18, .ref m19, .int 0, .int 0, .int 0, .int 0, .ref m24, .int 0, .ref m26, .int 0, .ref m28, .ref m29, .ref m30, .ref m31, .ref m32, .ref m33, .ref m34, .ref m35, .ref m36, .int 0, .int 0, .int 0, .int 0, .int 0, .int (-1), .int 0, .ref m44, .ref m45, .ref m46, .ref m47, .ref m48, .int 0, .ref m50, .ref m51, .ref m52, .ref m53, .ref m54, .int 0, .int 0]))]) [1] rfl
    have hD9 := hD.sub (ws' := [(mo, .inr (12, [.int 1, .ref m1, .int 0, .ref m3, .ref m4, .ref m5, .ref m6, .ref m7, .ref m8, .ref m9, .int 0, .ref m11, .ref m12, .ref m13, .ref m14, .ref m15, .ref m16, .ref m17, .ref m18, .ref m19, .int 0, .int 0, .int 0, .int 0, .ref m24, .int 0, .ref m26, .int 0, .ref m28, .ref m29, .ref m30, .ref m31, .ref m32, .ref m33, .ref m34, .ref m35, .ref m36, .int 0, .int 0, .int 0, .int 0, .int 0, .int (-1), .int 0, .ref m44, .ref m45, .ref m46, .ref m47, .ref m48, .int 0, .ref m50, .ref m51, .ref m52, .ref m53, .ref m54, .int 0, .int 0]))]) [1] (by decide) rfl
    have hK9 := hK.sub (tys' := []) [] rfl
    refine W.widen (k := 0) (n := 0) (Nat.le_of_ble_eq_true rfl) (Nat.le_of_ble_eq_true rfl) ?_
    exact (W.iret (v := 0) hx hb hr (fun t ht hW => ⟨⟨0, 1, rfl, Or.inl ⟨rfl, Or.inl c_1⟩, by rw [ht]; exact hP9, va_K.moved hW.alike hK9, hD9⟩, hS.F ht⟩) hS.2.2 dX12_count_35)
  · skip
    refine lv_iload_n hx hb dX12_count_5 rfl (lv_at hl 1 rfl) ?_
    refine lv_bipush (v := 9) hx hb dX12_count_6 (by decide) ?_
    refine lv_icmp_le (tgt := 17) hx hb dX12_count_8 (by decide) (fun c_5 => ?_) (fun c_5 => ?_)
    · skip
      refine lv_iload_n hx hb dX12_count_17 rfl (lv_at hl 1 rfl) ?_
      refine lv_bipush (v := 21) hx hb dX12_count_18 (by decide) ?_
      refine lv_icmp_le (tgt := 27) hx hb dX12_count_20 (by decide) (fun c_6 => ?_) (fun c_6 => absurd (i_921 c_5) c_6)
      refine lv_iconst (v := 0) hx hb dX12_count_27 (by decide) ?_
      refine ct_i (wr := [(m28, .inl (k28, 10, .inl (fun _ => 0)))]) (tyr := [(k28, .boolean)]) (va_runV (As := [.int 0]) (rest := []) ⟨hx, hb, hml, hown, hts⟩ (c_fails0 l hl0 dC dI mo m1 m3 m4 m5 m6 m7 m8 m9 m11 m12 m13 m14 m15 m16 m17 m18 m19 m24 m26 m28 m29 m30 m31 m32 m33 m34 m35 m36 m44 m45 m46 m47 m48 m50 m51 m52 m53 m54 0 0 0 (-1) 0 0 s.heap.size ) (cwV 1 hts gX12_count_X12_fails rfl rfl rfl (by decide +kernel) ⟨Nat.le_of_ble_eq_true rfl, Nat.le_of_ble_eq_true rfl⟩) (ct_preV (ci := 12) (q0 := 0) hP hD hK hS hA hZ rfl rfl [0] [] rfl (by decide) rfl) rfl rfl hl.1 rfl (lv_room (Nat.le_of_ble_eq_true rfl)) dX12_count_28 ⟨Nat.le_of_ble_eq_true rfl, Nat.le_of_ble_eq_true rfl⟩) hP hD hK hS hA [0] [1] [0] rfl rfl (by decide) (by decide) rfl (fun r_7 u H locs w_8 hP hD hK hS => ?_)
      try dsimp only at w_8
      have hP : va_P (dC, dI) vwCl [(m28, .inl (k28, 10, .inl (fun _ => 0))), (mo, .inr (12, [.int 0, .ref m1, .int 0, .ref m3, .ref m4, .ref m5, .ref m6, .ref m7, .ref m8, .ref m9, .int 0, .ref m11, .ref m12, .ref m13, .ref m14, .ref m15, .ref m16, .ref m17, .ref m18, .ref m19, .int 0, .int 0, .int 0, .int 0, .ref m24, .int 0, .ref m26, .int 0, .ref m28, .ref m29, .ref m30, .ref m31, .ref m32, .ref m33, .ref m34, .ref m35, .ref m36, .int 0, .int 0, .int 0, .int 0, .int 0, .int (-1), .int 0, .ref m44, .ref m45, .ref m46, .ref m47, .ref m48, .int 0, .ref m50, .ref m51, .ref m52, .ref m53, .ref m54, .int 0, .int 0]))] H := hP
      have hD : va_D A [(m28, .inl (k28, 10, .inl (fun _ => 0))), (mo, .inr (12, [.int 0, .ref m1, .int 0, .ref m3, .ref m4, .ref m5, .ref m6, .ref m7, .ref m8, .ref m9, .int 0, .ref m11, .ref m12, .ref m13, .ref m14, .ref m15, .ref m16, .ref m17, .ref m18, .ref m19, .int 0, .int 0, .int 0, .int 0, .ref m24, .int 0, .ref m26, .int 0, .ref m28, .ref m29, .ref m30, .ref m31, .ref m32, .ref m33, .ref m34, .ref m35, .ref m36, .int 0, .int 0, .int 0, .int 0, .int 0, .int (-1), .int 0, .ref m44, .ref m45, .ref m46, .ref m47, .ref m48, .int 0, .ref m50, .ref m51, .ref m52, .ref m53, .ref m54, .int 0, .int 0]))] := hD
      have hK : va_K (dC, dI) vwCl [(k28, .boolean)] s := hK
      obtain rfl : r_7 = 0 := w_8
      refine lv_if_eq (tgt := 36) hx hb dX12_count_31 (by decide) (fun _ => ?_) (fun c_9 => absurd c_9 (by decide))
      refine lv_iconst (v := 0) hx hb dX12_count_36 (by decide) ?_
      refine lv_istore_n (lv' := [(2, .int 0), (0, .ref mo), (1, .int wh)]) hx hb dX12_count_37 rfl hl (by decide) rfl (fun ls hl => ?_)
      refine lv_iload_n hx hb dX12_count_38 rfl (lv_at hl 2 rfl) ?_
      rcases sp_c10 wh with rfl | rfl | rfl | rfl | rfl | rfl | rfl | rfl | rfl | rfl | hsw
      · skip
        refine lv_tableIn (off := 53) (tgt := 92) hx hb dX12_count_39 (by decide) (by decide) (by decide) (by decide) ?_
        refine lv_aload_n hx hb dX12_count_92 rfl (lv_at hl 1 rfl) ?_
        refine va_get (D := (dC, dI)) (ci := 12) (v := .int 0) (C := RX12) (T := TX12) (N := 57) hx hb hts in12 hown hK hP 1 rfl rfl 2 (by decide) (hts (.fieldLink RX12 133 "FactKeeperModel" "taped" "I") (by decide +kernel)) (fun _ h9 => h9) rfl dX12_count_93 ?_
        have hP9 := hP.sub (ws' := [(mo, .inr (12, [.int 0, .ref m1, .int 0, .ref m3, .ref m4, .ref m5, .ref m6, .ref m7, .ref m8, .ref m9, .int 0, .ref m11, .ref m12, .ref m13, .ref m14, .ref m15, .ref m16, .ref m17, .ref m18, .ref m19, .int 0, .int 0, .int 0, .int 0, .ref m24, .int 0, .ref m26, .int 0, .ref m28, .ref m29, .ref m30, .ref m31, .ref m32, .ref m33, .ref m34, .ref m35, .ref m36, .int 0, .int 0, .int 0, .int 0, .int 0, .int (-1), .int 0, .ref m44, .ref m45, .ref m46, .ref m47, .ref m48, .int 0, .ref m50, .ref m51, .ref m52, .ref m53, .ref m54, .int 0, .int 0]))]) [1] rfl
        have hD9 := hD.sub (ws' := [(mo, .inr (12, [.int 0, .ref m1, .int 0, .ref m3, .ref m4, .ref m5, .ref m6, .ref m7, .ref m8, .ref m9, .int 0, .ref m11, .ref m12, .ref m13, .ref m14, .ref m15, .ref m16, .ref m17, .ref m18, .ref m19, .int 0, .int 0, .int 0, .int 0, .ref m24, .int 0, .ref m26, .int 0, .ref m28, .ref m29, .ref m30, .ref m31, .ref m32, .ref m33, .ref m34, .ref m35, .ref m36, .int 0, .int 0, .int 0, .int 0, .int 0, .int (-1), .int 0, .ref m44, .ref m45, .ref m46, .ref m47, .ref m48, .int 0, .ref m50, .ref m51, .ref m52, .ref m53, .ref m54, .int 0, .int 0]))]) [1] (by decide) rfl
        have hK9 := hK.sub (tys' := []) [] rfl
        refine W.widen (k := 0) (n := 0) (Nat.le_of_ble_eq_true rfl) (Nat.le_of_ble_eq_true rfl) ?_
        exact (W.iret (v := 0) hx hb hr (fun t ht hW => ⟨⟨0, 0, rfl, Or.inr ⟨rfl, fun h => h.elim c_1 (fun q => q (i_921 c_5)), (by decide)⟩, by rw [ht]; exact hP9, va_K.moved hW.alike hK9, hD9⟩, hS.F ht⟩) hS.2.2 dX12_count_96)
      · skip
        refine lv_tableIn (off := 58) (tgt := 97) hx hb dX12_count_39 (by decide) (by decide) (by decide) (by decide) ?_
        refine lv_aload_n hx hb dX12_count_97 rfl (lv_at hl 1 rfl) ?_
        refine va_get (D := (dC, dI)) (ci := 12) (v := .int 0) (C := RX12) (T := TX12) (N := 57) hx hb hts in12 hown hK hP 1 rfl rfl 10 (by decide) (hts (.fieldLink RX12 144 "FactKeeperModel" "tables" "I") (by decide +kernel)) (fun _ h9 => h9) rfl dX12_count_98 ?_
        have hP9 := hP.sub (ws' := [(mo, .inr (12, [.int 0, .ref m1, .int 0, .ref m3, .ref m4, .ref m5, .ref m6, .ref m7, .ref m8, .ref m9, .int 0, .ref m11, .ref m12, .ref m13, .ref m14, .ref m15, .ref m16, .ref m17, .ref m18, .ref m19, .int 0, .int 0, .int 0, .int 0, .ref m24, .int 0, .ref m26, .int 0, .ref m28, .ref m29, .ref m30, .ref m31, .ref m32, .ref m33, .ref m34, .ref m35, .ref m36, .int 0, .int 0, .int 0, .int 0, .int 0, .int (-1), .int 0, .ref m44, .ref m45, .ref m46, .ref m47, .ref m48, .int 0, .ref m50, .ref m51, .ref m52, .ref m53, .ref m54, .int 0, .int 0]))]) [1] rfl
        have hD9 := hD.sub (ws' := [(mo, .inr (12, [.int 0, .ref m1, .int 0, .ref m3, .ref m4, .ref m5, .ref m6, .ref m7, .ref m8, .ref m9, .int 0, .ref m11, .ref m12, .ref m13, .ref m14, .ref m15, .ref m16, .ref m17, .ref m18, .ref m19, .int 0, .int 0, .int 0, .int 0, .ref m24, .int 0, .ref m26, .int 0, .ref m28, .ref m29, .ref m30, .ref m31, .ref m32, .ref m33, .ref m34, .ref m35, .ref m36, .int 0, .int 0, .int 0, .int 0, .int 0, .int (-1), .int 0, .ref m44, .ref m45, .ref m46, .ref m47, .ref m48, .int 0, .ref m50, .ref m51, .ref m52, .ref m53, .ref m54, .int 0, .int 0]))]) [1] (by decide) rfl
        have hK9 := hK.sub (tys' := []) [] rfl
        refine W.widen (k := 0) (n := 0) (Nat.le_of_ble_eq_true rfl) (Nat.le_of_ble_eq_true rfl) ?_
        exact (W.iret (v := 0) hx hb hr (fun t ht hW => ⟨⟨0, 0, rfl, Or.inr ⟨rfl, fun h => h.elim c_1 (fun q => q (i_921 c_5)), (by decide)⟩, by rw [ht]; exact hP9, va_K.moved hW.alike hK9, hD9⟩, hS.F ht⟩) hS.2.2 dX12_count_101)
      · skip
        refine lv_tableIn (off := 63) (tgt := 102) hx hb dX12_count_39 (by decide) (by decide) (by decide) (by decide) ?_
        refine lv_aload_n hx hb dX12_count_102 rfl (lv_at hl 1 rfl) ?_
        refine va_get (D := (dC, dI)) (ci := 12) (v := .int 0) (C := RX12) (T := TX12) (N := 57) hx hb hts in12 hown hK hP 1 rfl rfl 22 (by decide) (hts (.fieldLink RX12 150 "FactKeeperModel" "time" "I") (by decide +kernel)) (fun _ h9 => h9) rfl dX12_count_103 ?_
        have hP9 := hP.sub (ws' := [(mo, .inr (12, [.int 0, .ref m1, .int 0, .ref m3, .ref m4, .ref m5, .ref m6, .ref m7, .ref m8, .ref m9, .int 0, .ref m11, .ref m12, .ref m13, .ref m14, .ref m15, .ref m16, .ref m17, .ref m18, .ref m19, .int 0, .int 0, .int 0, .int 0, .ref m24, .int 0, .ref m26, .int 0, .ref m28, .ref m29, .ref m30, .ref m31, .ref m32, .ref m33, .ref m34, .ref m35, .ref m36, .int 0, .int 0, .int 0, .int 0, .int 0, .int (-1), .int 0, .ref m44, .ref m45, .ref m46, .ref m47, .ref m48, .int 0, .ref m50, .ref m51, .ref m52, .ref m53, .ref m54, .int 0, .int 0]))]) [1] rfl
        have hD9 := hD.sub (ws' := [(mo, .inr (12, [.int 0, .ref m1, .int 0, .ref m3, .ref m4, .ref m5, .ref m6, .ref m7, .ref m8, .ref m9, .int 0, .ref m11, .ref m12, .ref m13, .ref m14, .ref m15, .ref m16, .ref m17, .ref m18, .ref m19, .int 0, .int 0, .int 0, .int 0, .ref m24, .int 0, .ref m26, .int 0, .ref m28, .ref m29, .ref m30, .ref m31, .ref m32, .ref m33, .ref m34, .ref m35, .ref m36, .int 0, .int 0, .int 0, .int 0, .int 0, .int (-1), .int 0, .ref m44, .ref m45, .ref m46, .ref m47, .ref m48, .int 0, .ref m50, .ref m51, .ref m52, .ref m53, .ref m54, .int 0, .int 0]))]) [1] (by decide) rfl
        have hK9 := hK.sub (tys' := []) [] rfl
        refine W.widen (k := 0) (n := 0) (Nat.le_of_ble_eq_true rfl) (Nat.le_of_ble_eq_true rfl) ?_
        exact (W.iret (v := 0) hx hb hr (fun t ht hW => ⟨⟨0, 0, rfl, Or.inr ⟨rfl, fun h => h.elim c_1 (fun q => q (i_921 c_5)), (by decide)⟩, by rw [ht]; exact hP9, va_K.moved hW.alike hK9, hD9⟩, hS.F ht⟩) hS.2.2 dX12_count_106)
      · skip
        refine lv_tableIn (off := 68) (tgt := 107) hx hb dX12_count_39 (by decide) (by decide) (by decide) (by decide) ?_
        refine lv_aload_n hx hb dX12_count_107 rfl (lv_at hl 1 rfl) ?_
        refine va_get (D := (dC, dI)) (ci := 12) (v := .int 0) (C := RX12) (T := TX12) (N := 57) hx hb hts in12 hown hK hP 1 rfl rfl 20 (by decide) (hts (.fieldLink RX12 187 "FactKeeperModel" "kept" "I") (by decide +kernel)) (fun _ h9 => h9) rfl dX12_count_108 ?_
        have hP9 := hP.sub (ws' := [(mo, .inr (12, [.int 0, .ref m1, .int 0, .ref m3, .ref m4, .ref m5, .ref m6, .ref m7, .ref m8, .ref m9, .int 0, .ref m11, .ref m12, .ref m13, .ref m14, .ref m15, .ref m16, .ref m17, .ref m18, .ref m19, .int 0, .int 0, .int 0, .int 0, .ref m24, .int 0, .ref m26, .int 0, .ref m28, .ref m29, .ref m30, .ref m31, .ref m32, .ref m33, .ref m34, .ref m35, .ref m36, .int 0, .int 0, .int 0, .int 0, .int 0, .int (-1), .int 0, .ref m44, .ref m45, .ref m46, .ref m47, .ref m48, .int 0, .ref m50, .ref m51, .ref m52, .ref m53, .ref m54, .int 0, .int 0]))]) [1] rfl
        have hD9 := hD.sub (ws' := [(mo, .inr (12, [.int 0, .ref m1, .int 0, .ref m3, .ref m4, .ref m5, .ref m6, .ref m7, .ref m8, .ref m9, .int 0, .ref m11, .ref m12, .ref m13, .ref m14, .ref m15, .ref m16, .ref m17, .ref m18, .ref m19, .int 0, .int 0, .int 0, .int 0, .ref m24, .int 0, .ref m26, .int 0, .ref m28, .ref m29, .ref m30, .ref m31, .ref m32, .ref m33, .ref m34, .ref m35, .ref m36, .int 0, .int 0, .int 0, .int 0, .int 0, .int (-1), .int 0, .ref m44, .ref m45, .ref m46, .ref m47, .ref m48, .int 0, .ref m50, .ref m51, .ref m52, .ref m53, .ref m54, .int 0, .int 0]))]) [1] (by decide) rfl
        have hK9 := hK.sub (tys' := []) [] rfl
        refine W.widen (k := 0) (n := 0) (Nat.le_of_ble_eq_true rfl) (Nat.le_of_ble_eq_true rfl) ?_
        exact (W.iret (v := 0) hx hb hr (fun t ht hW => ⟨⟨0, 0, rfl, Or.inr ⟨rfl, fun h => h.elim c_1 (fun q => q (i_921 c_5)), (by decide)⟩, by rw [ht]; exact hP9, va_K.moved hW.alike hK9, hD9⟩, hS.F ht⟩) hS.2.2 dX12_count_111)
      · skip
        refine lv_tableIn (off := 73) (tgt := 112) hx hb dX12_count_39 (by decide) (by decide) (by decide) (by decide) ?_
        refine lv_aload_n hx hb dX12_count_112 rfl (lv_at hl 1 rfl) ?_
        refine va_get (D := (dC, dI)) (ci := 12) (v := .int 0) (C := RX12) (T := TX12) (N := 57) hx hb hts in12 hown hK hP 1 rfl rfl 23 (by decide) (hts (.fieldLink RX12 147 "FactKeeperModel" "horizon" "I") (by decide +kernel)) (fun _ h9 => h9) rfl dX12_count_113 ?_
        have hP9 := hP.sub (ws' := [(mo, .inr (12, [.int 0, .ref m1, .int 0, .ref m3, .ref m4, .ref m5, .ref m6, .ref m7, .ref m8, .ref m9, .int 0, .ref m11, .ref m12, .ref m13, .ref m14, .ref m15, .ref m16, .ref m17, .ref m18, .ref m19, .int 0, .int 0, .int 0, .int 0, .ref m24, .int 0, .ref m26, .int 0, .ref m28, .ref m29, .ref m30, .ref m31, .ref m32, .ref m33, .ref m34, .ref m35, .ref m36, .int 0, .int 0, .int 0, .int 0, .int 0, .int (-1), .int 0, .ref m44, .ref m45, .ref m46, .ref m47, .ref m48, .int 0, .ref m50, .ref m51, .ref m52, .ref m53, .ref m54, .int 0, .int 0]))]) [1] rfl
        have hD9 := hD.sub (ws' := [(mo, .inr (12, [.int 0, .ref m1, .int 0, .ref m3, .ref m4, .ref m5, .ref m6, .ref m7, .ref m8, .ref m9, .int 0, .ref m11, .ref m12, .ref m13, .ref m14, .ref m15, .ref m16, .ref m17, .ref m18, .ref m19, .int 0, .int 0, .int 0, .int 0, .ref m24, .int 0, .ref m26, .int 0, .ref m28, .ref m29, .ref m30, .ref m31, .ref m32, .ref m33, .ref m34, .ref m35, .ref m36, .int 0, .int 0, .int 0, .int 0, .int 0, .int (-1), .int 0, .ref m44, .ref m45, .ref m46, .ref m47, .ref m48, .int 0, .ref m50, .ref m51, .ref m52, .ref m53, .ref m54, .int 0, .int 0]))]) [1] (by decide) rfl
        have hK9 := hK.sub (tys' := []) [] rfl
        refine W.widen (k := 0) (n := 0) (Nat.le_of_ble_eq_true rfl) (Nat.le_of_ble_eq_true rfl) ?_
        exact (W.iret (v := 0) hx hb hr (fun t ht hW => ⟨⟨0, 0, rfl, Or.inr ⟨rfl, fun h => h.elim c_1 (fun q => q (i_921 c_5)), (by decide)⟩, by rw [ht]; exact hP9, va_K.moved hW.alike hK9, hD9⟩, hS.F ht⟩) hS.2.2 dX12_count_116)
      · skip
        refine lv_tableIn (off := 78) (tgt := 117) hx hb dX12_count_39 (by decide) (by decide) (by decide) (by decide) ?_
        refine lv_aload_n hx hb dX12_count_117 rfl (lv_at hl 1 rfl) ?_
        refine va_get (D := (dC, dI)) (ci := 12) (v := .int 0) (C := RX12) (T := TX12) (N := 57) hx hb hts in12 hown hK hP 1 rfl rfl 38 (by decide) (hts (.fieldLink RX12 168 "FactKeeperModel" "looked" "I") (by decide +kernel)) (fun _ h9 => h9) rfl dX12_count_118 ?_
        have hP9 := hP.sub (ws' := [(mo, .inr (12, [.int 0, .ref m1, .int 0, .ref m3, .ref m4, .ref m5, .ref m6, .ref m7, .ref m8, .ref m9, .int 0, .ref m11, .ref m12, .ref m13, .ref m14, .ref m15, .ref m16, .ref m17, .ref m18, .ref m19, .int 0, .int 0, .int 0, .int 0, .ref m24, .int 0, .ref m26, .int 0, .ref m28, .ref m29, .ref m30, .ref m31, .ref m32, .ref m33, .ref m34, .ref m35, .ref m36, .int 0, .int 0, .int 0, .int 0, .int 0, .int (-1), .int 0, .ref m44, .ref m45, .ref m46, .ref m47, .ref m48, .int 0, .ref m50, .ref m51, .ref m52, .ref m53, .ref m54, .int 0, .int 0]))]) [1] rfl
        have hD9 := hD.sub (ws' := [(mo, .inr (12, [.int 0, .ref m1, .int 0, .ref m3, .ref m4, .ref m5, .ref m6, .ref m7, .ref m8, .ref m9, .int 0, .ref m11, .ref m12, .ref m13, .ref m14, .ref m15, .ref m16, .ref m17, .ref m18, .ref m19, .int 0, .int 0, .int 0, .int 0, .ref m24, .int 0, .ref m26, .int 0, .ref m28, .ref m29, .ref m30, .ref m31, .ref m32, .ref m33, .ref m34, .ref m35, .ref m36, .int 0, .int 0, .int 0, .int 0, .int 0, .int (-1), .int 0, .ref m44, .ref m45, .ref m46, .ref m47, .ref m48, .int 0, .ref m50, .ref m51, .ref m52, .ref m53, .ref m54, .int 0, .int 0]))]) [1] (by decide) rfl
        have hK9 := hK.sub (tys' := []) [] rfl
        refine W.widen (k := 0) (n := 0) (Nat.le_of_ble_eq_true rfl) (Nat.le_of_ble_eq_true rfl) ?_
        exact (W.iret (v := 0) hx hb hr (fun t ht hW => ⟨⟨0, 0, rfl, Or.inr ⟨rfl, fun h => h.elim c_1 (fun q => q (i_921 c_5)), (by decide)⟩, by rw [ht]; exact hP9, va_K.moved hW.alike hK9, hD9⟩, hS.F ht⟩) hS.2.2 dX12_count_121)
      · skip
        refine lv_tableIn (off := 83) (tgt := 122) hx hb dX12_count_39 (by decide) (by decide) (by decide) (by decide) ?_
        refine lv_aload_n hx hb dX12_count_122 rfl (lv_at hl 1 rfl) ?_
        refine va_get (D := (dC, dI)) (ci := 12) (v := .int (-1)) (C := RX12) (T := TX12) (N := 57) hx hb hts in12 hown hK hP 1 rfl rfl 42 (by decide) (hts (.fieldLink RX12 100 "FactKeeperModel" "broken" "I") (by decide +kernel)) (fun _ h9 => h9) rfl dX12_count_123 ?_
        have hP9 := hP.sub (ws' := [(mo, .inr (12, [.int 0, .ref m1, .int 0, .ref m3, .ref m4, .ref m5, .ref m6, .ref m7, .ref m8, .ref m9, .int 0, .ref m11, .ref m12, .ref m13, .ref m14, .ref m15, .ref m16, .ref m17, .ref m18, .ref m19, .int 0, .int 0, .int 0, .int 0, .ref m24, .int 0, .ref m26, .int 0, .ref m28, .ref m29, .ref m30, .ref m31, .ref m32, .ref m33, .ref m34, .ref m35, .ref m36, .int 0, .int 0, .int 0, .int 0, .int 0, .int (-1), .int 0, .ref m44, .ref m45, .ref m46, .ref m47, .ref m48, .int 0, .ref m50, .ref m51, .ref m52, .ref m53, .ref m54, .int 0, .int 0]))]) [1] rfl
        have hD9 := hD.sub (ws' := [(mo, .inr (12, [.int 0, .ref m1, .int 0, .ref m3, .ref m4, .ref m5, .ref m6, .ref m7, .ref m8, .ref m9, .int 0, .ref m11, .ref m12, .ref m13, .ref m14, .ref m15, .ref m16, .ref m17, .ref m18, .ref m19, .int 0, .int 0, .int 0, .int 0, .ref m24, .int 0, .ref m26, .int 0, .ref m28, .ref m29, .ref m30, .ref m31, .ref m32, .ref m33, .ref m34, .ref m35, .ref m36, .int 0, .int 0, .int 0, .int 0, .int 0, .int (-1), .int 0, .ref m44, .ref m45, .ref m46, .ref m47, .ref m48, .int 0, .ref m50, .ref m51, .ref m52, .ref m53, .ref m54, .int 0, .int 0]))]) [1] (by decide) rfl
        have hK9 := hK.sub (tys' := []) [] rfl
        refine W.widen (k := 0) (n := 0) (Nat.le_of_ble_eq_true rfl) (Nat.le_of_ble_eq_true rfl) ?_
        exact (W.iret (v := (-1)) hx hb hr (fun t ht hW => ⟨⟨(-1), 0, rfl, Or.inr ⟨rfl, fun h => h.elim c_1 (fun q => q (i_921 c_5)), (by decide)⟩, by rw [ht]; exact hP9, va_K.moved hW.alike hK9, hD9⟩, hS.F ht⟩) hS.2.2 dX12_count_126)
      · skip
        refine lv_tableIn (off := 88) (tgt := 127) hx hb dX12_count_39 (by decide) (by decide) (by decide) (by decide) ?_
        refine lv_iconst (v := 0) hx hb dX12_count_127 (by decide) ?_
        refine lv_istore_n (lv' := [(3, .int 0), (2, .int 0), (0, .ref mo), (1, .int 7)]) hx hb dX12_count_128 rfl hl (by decide) rfl (fun ls hl => ?_)
        refine lv_iload_n hx hb dX12_count_129 rfl (lv_at hl 0 rfl) ?_
        refine lv_bipush (v := 10) hx hb dX12_count_130 (by decide) ?_
        refine lv_icmp_ge (tgt := 153) hx hb dX12_count_132 (by decide) (fun c_10 => absurd c_10 (by decide)) (fun _ => ?_)
        refine lv_aload_n hx hb dX12_count_135 rfl (lv_at hl 2 rfl) ?_
        refine va_get (D := (dC, dI)) (ci := 12) (v := .ref m28) (C := RX12) (T := TX12) (N := 57) hx hb hts in12 hown hK hP 1 rfl rfl 28 (by decide) (hts (.fieldLink RX12 73 "FactKeeperModel" "isOpen" "[Z") (by decide +kernel)) (fun _ h9 => h9) rfl dX12_count_136 ?_
        refine lv_iload_n hx hb dX12_count_139 rfl (lv_at hl 0 rfl) ?_
        refine va_zald hx hb hK hP 0 0 rfl rfl (by unfold vp_in; decide) dX12_count_140 ?_
        refine lv_topi (fun z_11 ez_11 => ?_)
        obtain rfl : z_11 = 0 := ez_11
        refine lv_if_eq (tgt := 147) hx hb dX12_count_141 (by decide) (fun _ => ?_) (fun c_12 => absurd c_12 (by decide))
        refine lv_iinc (v := 1) (lv' := [(3, .int 1), (2, .int 0), (0, .ref mo), (1, .int 7)]) hx hb dX12_count_147 hl (k := 0) rfl (by decide) (by decide) rfl (fun ls hl => ?_)
        refine lv_goto (tgt := 129) hx hb dX12_count_150 (by decide) ?_
        refine lv_iload_n hx hb dX12_count_129 rfl (lv_at hl 0 rfl) ?_
        refine lv_bipush (v := 10) hx hb dX12_count_130 (by decide) ?_
        refine lv_icmp_ge (tgt := 153) hx hb dX12_count_132 (by decide) (fun c_13 => absurd c_13 (by decide)) (fun _ => ?_)
        refine lv_aload_n hx hb dX12_count_135 rfl (lv_at hl 2 rfl) ?_
        refine va_get (D := (dC, dI)) (ci := 12) (v := .ref m28) (C := RX12) (T := TX12) (N := 57) hx hb hts in12 hown hK hP 1 rfl rfl 28 (by decide) (hts (.fieldLink RX12 73 "FactKeeperModel" "isOpen" "[Z") (by decide +kernel)) (fun _ h9 => h9) rfl dX12_count_136 ?_
        refine lv_iload_n hx hb dX12_count_139 rfl (lv_at hl 0 rfl) ?_
        refine va_zald hx hb hK hP 0 0 rfl rfl (by unfold vp_in; decide) dX12_count_140 ?_
        refine lv_topi (fun z_14 ez_14 => ?_)
        obtain rfl : z_14 = 0 := ez_14
        refine lv_if_eq (tgt := 147) hx hb dX12_count_141 (by decide) (fun _ => ?_) (fun c_15 => absurd c_15 (by decide))
        refine lv_iinc (v := 2) (lv' := [(3, .int 2), (2, .int 0), (0, .ref mo), (1, .int 7)]) hx hb dX12_count_147 hl (k := 0) rfl (by decide) (by decide) rfl (fun ls hl => ?_)
        refine lv_goto (tgt := 129) hx hb dX12_count_150 (by decide) ?_
        refine lv_iload_n hx hb dX12_count_129 rfl (lv_at hl 0 rfl) ?_
        refine lv_bipush (v := 10) hx hb dX12_count_130 (by decide) ?_
        refine lv_icmp_ge (tgt := 153) hx hb dX12_count_132 (by decide) (fun c_16 => absurd c_16 (by decide)) (fun _ => ?_)
        refine lv_aload_n hx hb dX12_count_135 rfl (lv_at hl 2 rfl) ?_
        refine va_get (D := (dC, dI)) (ci := 12) (v := .ref m28) (C := RX12) (T := TX12) (N := 57) hx hb hts in12 hown hK hP 1 rfl rfl 28 (by decide) (hts (.fieldLink RX12 73 "FactKeeperModel" "isOpen" "[Z") (by decide +kernel)) (fun _ h9 => h9) rfl dX12_count_136 ?_
        refine lv_iload_n hx hb dX12_count_139 rfl (lv_at hl 0 rfl) ?_
        refine va_zald hx hb hK hP 0 0 rfl rfl (by unfold vp_in; decide) dX12_count_140 ?_
        refine lv_topi (fun z_17 ez_17 => ?_)
        obtain rfl : z_17 = 0 := ez_17
        refine lv_if_eq (tgt := 147) hx hb dX12_count_141 (by decide) (fun _ => ?_) (fun c_18 => absurd c_18 (by decide))
        refine lv_iinc (v := 3) (lv' := [(3, .int 3), (2, .int 0), (0, .ref mo), (1, .int 7)]) hx hb dX12_count_147 hl (k := 0) rfl (by decide) (by decide) rfl (fun ls hl => ?_)
        refine lv_goto (tgt := 129) hx hb dX12_count_150 (by decide) ?_
        refine lv_iload_n hx hb dX12_count_129 rfl (lv_at hl 0 rfl) ?_
        refine lv_bipush (v := 10) hx hb dX12_count_130 (by decide) ?_
        refine lv_icmp_ge (tgt := 153) hx hb dX12_count_132 (by decide) (fun c_19 => absurd c_19 (by decide)) (fun _ => ?_)
        refine lv_aload_n hx hb dX12_count_135 rfl (lv_at hl 2 rfl) ?_
        refine va_get (D := (dC, dI)) (ci := 12) (v := .ref m28) (C := RX12) (T := TX12) (N := 57) hx hb hts in12 hown hK hP 1 rfl rfl 28 (by decide) (hts (.fieldLink RX12 73 "FactKeeperModel" "isOpen" "[Z") (by decide +kernel)) (fun _ h9 => h9) rfl dX12_count_136 ?_
        refine lv_iload_n hx hb dX12_count_139 rfl (lv_at hl 0 rfl) ?_
        refine va_zald hx hb hK hP 0 0 rfl rfl (by unfold vp_in; decide) dX12_count_140 ?_
        refine lv_topi (fun z_20 ez_20 => ?_)
        obtain rfl : z_20 = 0 := ez_20
        refine lv_if_eq (tgt := 147) hx hb dX12_count_141 (by decide) (fun _ => ?_) (fun c_21 => absurd c_21 (by decide))
        refine lv_iinc (v := 4) (lv' := [(3, .int 4), (2, .int 0), (0, .ref mo), (1, .int 7)]) hx hb dX12_count_147 hl (k := 0) rfl (by decide) (by decide) rfl (fun ls hl => ?_)
        refine lv_goto (tgt := 129) hx hb dX12_count_150 (by decide) ?_
        refine lv_iload_n hx hb dX12_count_129 rfl (lv_at hl 0 rfl) ?_
        refine lv_bipush (v := 10) hx hb dX12_count_130 (by decide) ?_
        refine lv_icmp_ge (tgt := 153) hx hb dX12_count_132 (by decide) (fun c_22 => absurd c_22 (by decide)) (fun _ => ?_)
        refine lv_aload_n hx hb dX12_count_135 rfl (lv_at hl 2 rfl) ?_
        refine va_get (D := (dC, dI)) (ci := 12) (v := .ref m28) (C := RX12) (T := TX12) (N := 57) hx hb hts in12 hown hK hP 1 rfl rfl 28 (by decide) (hts (.fieldLink RX12 73 "FactKeeperModel" "isOpen" "[Z") (by decide +kernel)) (fun _ h9 => h9) rfl dX12_count_136 ?_
        refine lv_iload_n hx hb dX12_count_139 rfl (lv_at hl 0 rfl) ?_
        refine va_zald hx hb hK hP 0 0 rfl rfl (by unfold vp_in; decide) dX12_count_140 ?_
        refine lv_topi (fun z_23 ez_23 => ?_)
        obtain rfl : z_23 = 0 := ez_23
        refine lv_if_eq (tgt := 147) hx hb dX12_count_141 (by decide) (fun _ => ?_) (fun c_24 => absurd c_24 (by decide))
        refine lv_iinc (v := 5) (lv' := [(3, .int 5), (2, .int 0), (0, .ref mo), (1, .int 7)]) hx hb dX12_count_147 hl (k := 0) rfl (by decide) (by decide) rfl (fun ls hl => ?_)
        refine lv_goto (tgt := 129) hx hb dX12_count_150 (by decide) ?_
        refine lv_iload_n hx hb dX12_count_129 rfl (lv_at hl 0 rfl) ?_
        refine lv_bipush (v := 10) hx hb dX12_count_130 (by decide) ?_
        refine lv_icmp_ge (tgt := 153) hx hb dX12_count_132 (by decide) (fun c_25 => absurd c_25 (by decide)) (fun _ => ?_)
        refine lv_aload_n hx hb dX12_count_135 rfl (lv_at hl 2 rfl) ?_
        refine va_get (D := (dC, dI)) (ci := 12) (v := .ref m28) (C := RX12) (T := TX12) (N := 57) hx hb hts in12 hown hK hP 1 rfl rfl 28 (by decide) (hts (.fieldLink RX12 73 "FactKeeperModel" "isOpen" "[Z") (by decide +kernel)) (fun _ h9 => h9) rfl dX12_count_136 ?_
        refine lv_iload_n hx hb dX12_count_139 rfl (lv_at hl 0 rfl) ?_
        refine va_zald hx hb hK hP 0 0 rfl rfl (by unfold vp_in; decide) dX12_count_140 ?_
        refine lv_topi (fun z_26 ez_26 => ?_)
        obtain rfl : z_26 = 0 := ez_26
        refine lv_if_eq (tgt := 147) hx hb dX12_count_141 (by decide) (fun _ => ?_) (fun c_27 => absurd c_27 (by decide))
        refine lv_iinc (v := 6) (lv' := [(3, .int 6), (2, .int 0), (0, .ref mo), (1, .int 7)]) hx hb dX12_count_147 hl (k := 0) rfl (by decide) (by decide) rfl (fun ls hl => ?_)
        refine lv_goto (tgt := 129) hx hb dX12_count_150 (by decide) ?_
        refine lv_iload_n hx hb dX12_count_129 rfl (lv_at hl 0 rfl) ?_
        refine lv_bipush (v := 10) hx hb dX12_count_130 (by decide) ?_
        refine lv_icmp_ge (tgt := 153) hx hb dX12_count_132 (by decide) (fun c_28 => absurd c_28 (by decide)) (fun _ => ?_)
        refine lv_aload_n hx hb dX12_count_135 rfl (lv_at hl 2 rfl) ?_
        refine va_get (D := (dC, dI)) (ci := 12) (v := .ref m28) (C := RX12) (T := TX12) (N := 57) hx hb hts in12 hown hK hP 1 rfl rfl 28 (by decide) (hts (.fieldLink RX12 73 "FactKeeperModel" "isOpen" "[Z") (by decide +kernel)) (fun _ h9 => h9) rfl dX12_count_136 ?_
        refine lv_iload_n hx hb dX12_count_139 rfl (lv_at hl 0 rfl) ?_
        refine va_zald hx hb hK hP 0 0 rfl rfl (by unfold vp_in; decide) dX12_count_140 ?_
        refine lv_topi (fun z_29 ez_29 => ?_)
        obtain rfl : z_29 = 0 := ez_29
        refine lv_if_eq (tgt := 147) hx hb dX12_count_141 (by decide) (fun _ => ?_) (fun c_30 => absurd c_30 (by decide))
        refine lv_iinc (v := 7) (lv' := [(3, .int 7), (2, .int 0), (0, .ref mo), (1, .int 7)]) hx hb dX12_count_147 hl (k := 0) rfl (by decide) (by decide) rfl (fun ls hl => ?_)
        refine lv_goto (tgt := 129) hx hb dX12_count_150 (by decide) ?_
        refine lv_iload_n hx hb dX12_count_129 rfl (lv_at hl 0 rfl) ?_
        refine lv_bipush (v := 10) hx hb dX12_count_130 (by decide) ?_
        refine lv_icmp_ge (tgt := 153) hx hb dX12_count_132 (by decide) (fun c_31 => absurd c_31 (by decide)) (fun _ => ?_)
        refine lv_aload_n hx hb dX12_count_135 rfl (lv_at hl 2 rfl) ?_
        refine va_get (D := (dC, dI)) (ci := 12) (v := .ref m28) (C := RX12) (T := TX12) (N := 57) hx hb hts in12 hown hK hP 1 rfl rfl 28 (by decide) (hts (.fieldLink RX12 73 "FactKeeperModel" "isOpen" "[Z") (by decide +kernel)) (fun _ h9 => h9) rfl dX12_count_136 ?_
        refine lv_iload_n hx hb dX12_count_139 rfl (lv_at hl 0 rfl) ?_
        refine va_zald hx hb hK hP 0 0 rfl rfl (by unfold vp_in; decide) dX12_count_140 ?_
        refine lv_topi (fun z_32 ez_32 => ?_)
        obtain rfl : z_32 = 0 := ez_32
        refine lv_if_eq (tgt := 147) hx hb dX12_count_141 (by decide) (fun _ => ?_) (fun c_33 => absurd c_33 (by decide))
        refine lv_iinc (v := 8) (lv' := [(3, .int 8), (2, .int 0), (0, .ref mo), (1, .int 7)]) hx hb dX12_count_147 hl (k := 0) rfl (by decide) (by decide) rfl (fun ls hl => ?_)
        refine lv_goto (tgt := 129) hx hb dX12_count_150 (by decide) ?_
        refine lv_iload_n hx hb dX12_count_129 rfl (lv_at hl 0 rfl) ?_
        refine lv_bipush (v := 10) hx hb dX12_count_130 (by decide) ?_
        refine lv_icmp_ge (tgt := 153) hx hb dX12_count_132 (by decide) (fun c_34 => absurd c_34 (by decide)) (fun _ => ?_)
        refine lv_aload_n hx hb dX12_count_135 rfl (lv_at hl 2 rfl) ?_
        refine va_get (D := (dC, dI)) (ci := 12) (v := .ref m28) (C := RX12) (T := TX12) (N := 57) hx hb hts in12 hown hK hP 1 rfl rfl 28 (by decide) (hts (.fieldLink RX12 73 "FactKeeperModel" "isOpen" "[Z") (by decide +kernel)) (fun _ h9 => h9) rfl dX12_count_136 ?_
        refine lv_iload_n hx hb dX12_count_139 rfl (lv_at hl 0 rfl) ?_
        refine va_zald hx hb hK hP 0 0 rfl rfl (by unfold vp_in; decide) dX12_count_140 ?_
        refine lv_topi (fun z_35 ez_35 => ?_)
        obtain rfl : z_35 = 0 := ez_35
        refine lv_if_eq (tgt := 147) hx hb dX12_count_141 (by decide) (fun _ => ?_) (fun c_36 => absurd c_36 (by decide))
        refine lv_iinc (v := 9) (lv' := [(3, .int 9), (2, .int 0), (0, .ref mo), (1, .int 7)]) hx hb dX12_count_147 hl (k := 0) rfl (by decide) (by decide) rfl (fun ls hl => ?_)
        refine lv_goto (tgt := 129) hx hb dX12_count_150 (by decide) ?_
        refine lv_iload_n hx hb dX12_count_129 rfl (lv_at hl 0 rfl) ?_
        refine lv_bipush (v := 10) hx hb dX12_count_130 (by decide) ?_
        refine lv_icmp_ge (tgt := 153) hx hb dX12_count_132 (by decide) (fun c_37 => absurd c_37 (by decide)) (fun _ => ?_)
        refine lv_aload_n hx hb dX12_count_135 rfl (lv_at hl 2 rfl) ?_
        refine va_get (D := (dC, dI)) (ci := 12) (v := .ref m28) (C := RX12) (T := TX12) (N := 57) hx hb hts in12 hown hK hP 1 rfl rfl 28 (by decide) (hts (.fieldLink RX12 73 "FactKeeperModel" "isOpen" "[Z") (by decide +kernel)) (fun _ h9 => h9) rfl dX12_count_136 ?_
        refine lv_iload_n hx hb dX12_count_139 rfl (lv_at hl 0 rfl) ?_
        refine va_zald hx hb hK hP 0 0 rfl rfl (by unfold vp_in; decide) dX12_count_140 ?_
        refine lv_topi (fun z_38 ez_38 => ?_)
        obtain rfl : z_38 = 0 := ez_38
        refine lv_if_eq (tgt := 147) hx hb dX12_count_141 (by decide) (fun _ => ?_) (fun c_39 => absurd c_39 (by decide))
        refine lv_iinc (v := 10) (lv' := [(3, .int 10), (2, .int 0), (0, .ref mo), (1, .int 7)]) hx hb dX12_count_147 hl (k := 0) rfl (by decide) (by decide) rfl (fun ls hl => ?_)
        refine lv_goto (tgt := 129) hx hb dX12_count_150 (by decide) ?_
        refine lv_iload_n hx hb dX12_count_129 rfl (lv_at hl 0 rfl) ?_
        refine lv_bipush (v := 10) hx hb dX12_count_130 (by decide) ?_
        refine lv_icmp_ge (tgt := 153) hx hb dX12_count_132 (by decide) (fun _ => ?_) (fun c_40 => absurd c_40 (by decide))
        refine lv_iload_n hx hb dX12_count_153 rfl (lv_at hl 1 rfl) ?_
        have hP9 := hP.sub (ws' := [(mo, .inr (12, [.int 0, .ref m1, .int 0, .ref m3, .ref m4, .ref m5, .ref m6, .ref m7, .ref m8, .ref m9, .int 0, .ref m11, .ref m12, .ref m13, .ref m14, .ref m15, .ref m16, .ref m17, .ref m18, .ref m19, .int 0, .int 0, .int 0, .int 0, .ref m24, .int 0, .ref m26, .int 0, .ref m28, .ref m29, .ref m30, .ref m31, .ref m32, .ref m33, .ref m34, .ref m35, .ref m36, .int 0, .int 0, .int 0, .int 0, .int 0, .int (-1), .int 0, .ref m44, .ref m45, .ref m46, .ref m47, .ref m48, .int 0, .ref m50, .ref m51, .ref m52, .ref m53, .ref m54, .int 0, .int 0]))]) [1] rfl
        have hD9 := hD.sub (ws' := [(mo, .inr (12, [.int 0, .ref m1, .int 0, .ref m3, .ref m4, .ref m5, .ref m6, .ref m7, .ref m8, .ref m9, .int 0, .ref m11, .ref m12, .ref m13, .ref m14, .ref m15, .ref m16, .ref m17, .ref m18, .ref m19, .int 0, .int 0, .int 0, .int 0, .ref m24, .int 0, .ref m26, .int 0, .ref m28, .ref m29, .ref m30, .ref m31, .ref m32, .ref m33, .ref m34, .ref m35, .ref m36, .int 0, .int 0, .int 0, .int 0, .int 0, .int (-1), .int 0, .ref m44, .ref m45, .ref m46, .ref m47, .ref m48, .int 0, .ref m50, .ref m51, .ref m52, .ref m53, .ref m54, .int 0, .int 0]))]) [1] (by decide) rfl
        have hK9 := hK.sub (tys' := []) [] rfl
        refine W.widen (k := 0) (n := 0) (Nat.le_of_ble_eq_true rfl) (Nat.le_of_ble_eq_true rfl) ?_
        exact (W.iret (v := 0) hx hb hr (fun t ht hW => ⟨⟨0, 0, rfl, Or.inr ⟨rfl, fun h => h.elim c_1 (fun q => q (i_921 c_5)), (by decide)⟩, by rw [ht]; exact hP9, va_K.moved hW.alike hK9, hD9⟩, hS.F ht⟩) hS.2.2 dX12_count_154)
      · skip
        refine lv_tableIn (off := 116) (tgt := 155) hx hb dX12_count_39 (by decide) (by decide) (by decide) (by decide) ?_
        refine lv_aload_n hx hb dX12_count_155 rfl (lv_at hl 1 rfl) ?_
        refine va_get (D := (dC, dI)) (ci := 12) (v := .int 0) (C := RX12) (T := TX12) (N := 57) hx hb hts in12 hown hK hP 1 rfl rfl 27 (by decide) (hts (.fieldLink RX12 193 "FactKeeperModel" "marks" "I") (by decide +kernel)) (fun _ h9 => h9) rfl dX12_count_156 ?_
        have hP9 := hP.sub (ws' := [(mo, .inr (12, [.int 0, .ref m1, .int 0, .ref m3, .ref m4, .ref m5, .ref m6, .ref m7, .ref m8, .ref m9, .int 0, .ref m11, .ref m12, .ref m13, .ref m14, .ref m15, .ref m16, .ref m17, .ref m18, .ref m19, .int 0, .int 0, .int 0, .int 0, .ref m24, .int 0, .ref m26, .int 0, .ref m28, .ref m29, .ref m30, .ref m31, .ref m32, .ref m33, .ref m34, .ref m35, .ref m36, .int 0, .int 0, .int 0, .int 0, .int 0, .int (-1), .int 0, .ref m44, .ref m45, .ref m46, .ref m47, .ref m48, .int 0, .ref m50, .ref m51, .ref m52, .ref m53, .ref m54, .int 0, .int 0]))]) [1] rfl
        have hD9 := hD.sub (ws' := [(mo, .inr (12, [.int 0, .ref m1, .int 0, .ref m3, .ref m4, .ref m5, .ref m6, .ref m7, .ref m8, .ref m9, .int 0, .ref m11, .ref m12, .ref m13, .ref m14, .ref m15, .ref m16, .ref m17, .ref m18, .ref m19, .int 0, .int 0, .int 0, .int 0, .ref m24, .int 0, .ref m26, .int 0, .ref m28, .ref m29, .ref m30, .ref m31, .ref m32, .ref m33, .ref m34, .ref m35, .ref m36, .int 0, .int 0, .int 0, .int 0, .int 0, .int (-1), .int 0, .ref m44, .ref m45, .ref m46, .ref m47, .ref m48, .int 0, .ref m50, .ref m51, .ref m52, .ref m53, .ref m54, .int 0, .int 0]))]) [1] (by decide) rfl
        have hK9 := hK.sub (tys' := []) [] rfl
        refine W.widen (k := 0) (n := 0) (Nat.le_of_ble_eq_true rfl) (Nat.le_of_ble_eq_true rfl) ?_
        exact (W.iret (v := 0) hx hb hr (fun t ht hW => ⟨⟨0, 0, rfl, Or.inr ⟨rfl, fun h => h.elim c_1 (fun q => q (i_921 c_5)), (by decide)⟩, by rw [ht]; exact hP9, va_K.moved hW.alike hK9, hD9⟩, hS.F ht⟩) hS.2.2 dX12_count_159)
      · skip
        refine lv_tableIn (off := 121) (tgt := 160) hx hb dX12_count_39 (by decide) (by decide) (by decide) (by decide) ?_
        refine lv_iconst (v := 0) hx hb dX12_count_160 (by decide) ?_
        refine lv_istore_n (lv' := [(3, .int 0), (2, .int 0), (0, .ref mo), (1, .int 9)]) hx hb dX12_count_161 rfl hl (by decide) rfl (fun ls hl => ?_)
        refine lv_iload_n hx hb dX12_count_162 rfl (lv_at hl 0 rfl) ?_
        refine lv_bipush (v := 8) hx hb dX12_count_163 (by decide) ?_
        refine lv_icmp_ge (tgt := 185) hx hb dX12_count_165 (by decide) (fun c_41 => absurd c_41 (by decide)) (fun _ => ?_)
        refine lv_iload_n hx hb dX12_count_168 rfl (lv_at hl 1 rfl) ?_
        refine lv_aload_n hx hb dX12_count_169 rfl (lv_at hl 2 rfl) ?_
        refine va_get (D := (dC, dI)) (ci := 12) (v := .int 0) (C := RX12) (T := TX12) (N := 57) hx hb hts in12 hown hK hP 1 rfl rfl 56 (by decide) (hts (.fieldLink RX12 316 "FactKeeperModel" "toldKnown" "I") (by decide +kernel)) (fun _ h9 => h9) rfl dX12_count_170 ?_
        refine lv_iload_n hx hb dX12_count_173 rfl (lv_at hl 0 rfl) ?_
        refine lv_ishr hx hb dX12_count_174 ?_
        refine lv_topi (fun z_42 ez_42 => ?_)
        obtain rfl : z_42 = 0 := ez_42.trans (by decide)
        refine lv_iconst (v := 1) hx hb dX12_count_175 (by decide) ?_
        refine lv_iand hx hb dX12_count_176 ?_
        refine lv_topi (fun z_43 ez_43 => ?_)
        obtain rfl : z_43 = 0 := ez_43.trans (by decide)
        refine lv_iadd hx hb dX12_count_177 ?_
        refine lv_topi (fun z_44 ez_44 => ?_)
        obtain rfl : z_44 = 0 := ez_44.trans (by decide)
        refine lv_istore_n (lv' := [(2, .int 0), (3, .int 0), (0, .ref mo), (1, .int 9)]) hx hb dX12_count_178 rfl hl (by decide) rfl (fun ls hl => ?_)
        refine lv_iinc (v := 1) (lv' := [(3, .int 1), (2, .int 0), (0, .ref mo), (1, .int 9)]) hx hb dX12_count_179 hl (k := 1) rfl (by decide) (by decide) rfl (fun ls hl => ?_)
        refine lv_goto (tgt := 162) hx hb dX12_count_182 (by decide) ?_
        refine lv_iload_n hx hb dX12_count_162 rfl (lv_at hl 0 rfl) ?_
        refine lv_bipush (v := 8) hx hb dX12_count_163 (by decide) ?_
        refine lv_icmp_ge (tgt := 185) hx hb dX12_count_165 (by decide) (fun c_45 => absurd c_45 (by decide)) (fun _ => ?_)
        refine lv_iload_n hx hb dX12_count_168 rfl (lv_at hl 1 rfl) ?_
        refine lv_aload_n hx hb dX12_count_169 rfl (lv_at hl 2 rfl) ?_
        refine va_get (D := (dC, dI)) (ci := 12) (v := .int 0) (C := RX12) (T := TX12) (N := 57) hx hb hts in12 hown hK hP 1 rfl rfl 56 (by decide) (hts (.fieldLink RX12 316 "FactKeeperModel" "toldKnown" "I") (by decide +kernel)) (fun _ h9 => h9) rfl dX12_count_170 ?_
        refine lv_iload_n hx hb dX12_count_173 rfl (lv_at hl 0 rfl) ?_
        refine lv_ishr hx hb dX12_count_174 ?_
        refine lv_topi (fun z_46 ez_46 => ?_)
        obtain rfl : z_46 = 0 := ez_46.trans (by decide)
        refine lv_iconst (v := 1) hx hb dX12_count_175 (by decide) ?_
        refine lv_iand hx hb dX12_count_176 ?_
        refine lv_topi (fun z_47 ez_47 => ?_)
        obtain rfl : z_47 = 0 := ez_47.trans (by decide)
        refine lv_iadd hx hb dX12_count_177 ?_
        refine lv_topi (fun z_48 ez_48 => ?_)
        obtain rfl : z_48 = 0 := ez_48.trans (by decide)
        refine lv_istore_n (lv' := [(2, .int 0), (3, .int 1), (0, .ref mo), (1, .int 9)]) hx hb dX12_count_178 rfl hl (by decide) rfl (fun ls hl => ?_)
        refine lv_iinc (v := 2) (lv' := [(3, .int 2), (2, .int 0), (0, .ref mo), (1, .int 9)]) hx hb dX12_count_179 hl (k := 1) rfl (by decide) (by decide) rfl (fun ls hl => ?_)
        refine lv_goto (tgt := 162) hx hb dX12_count_182 (by decide) ?_
        refine lv_iload_n hx hb dX12_count_162 rfl (lv_at hl 0 rfl) ?_
        refine lv_bipush (v := 8) hx hb dX12_count_163 (by decide) ?_
        refine lv_icmp_ge (tgt := 185) hx hb dX12_count_165 (by decide) (fun c_49 => absurd c_49 (by decide)) (fun _ => ?_)
        refine lv_iload_n hx hb dX12_count_168 rfl (lv_at hl 1 rfl) ?_
        refine lv_aload_n hx hb dX12_count_169 rfl (lv_at hl 2 rfl) ?_
        refine va_get (D := (dC, dI)) (ci := 12) (v := .int 0) (C := RX12) (T := TX12) (N := 57) hx hb hts in12 hown hK hP 1 rfl rfl 56 (by decide) (hts (.fieldLink RX12 316 "FactKeeperModel" "toldKnown" "I") (by decide +kernel)) (fun _ h9 => h9) rfl dX12_count_170 ?_
        refine lv_iload_n hx hb dX12_count_173 rfl (lv_at hl 0 rfl) ?_
        refine lv_ishr hx hb dX12_count_174 ?_
        refine lv_topi (fun z_50 ez_50 => ?_)
        obtain rfl : z_50 = 0 := ez_50.trans (by decide)
        refine lv_iconst (v := 1) hx hb dX12_count_175 (by decide) ?_
        refine lv_iand hx hb dX12_count_176 ?_
        refine lv_topi (fun z_51 ez_51 => ?_)
        obtain rfl : z_51 = 0 := ez_51.trans (by decide)
        refine lv_iadd hx hb dX12_count_177 ?_
        refine lv_topi (fun z_52 ez_52 => ?_)
        obtain rfl : z_52 = 0 := ez_52.trans (by decide)
        refine lv_istore_n (lv' := [(2, .int 0), (3, .int 2), (0, .ref mo), (1, .int 9)]) hx hb dX12_count_178 rfl hl (by decide) rfl (fun ls hl => ?_)
        refine lv_iinc (v := 3) (lv' := [(3, .int 3), (2, .int 0), (0, .ref mo), (1, .int 9)]) hx hb dX12_count_179 hl (k := 1) rfl (by decide) (by decide) rfl (fun ls hl => ?_)
        refine lv_goto (tgt := 162) hx hb dX12_count_182 (by decide) ?_
        refine lv_iload_n hx hb dX12_count_162 rfl (lv_at hl 0 rfl) ?_
        refine lv_bipush (v := 8) hx hb dX12_count_163 (by decide) ?_
        refine lv_icmp_ge (tgt := 185) hx hb dX12_count_165 (by decide) (fun c_53 => absurd c_53 (by decide)) (fun _ => ?_)
        refine lv_iload_n hx hb dX12_count_168 rfl (lv_at hl 1 rfl) ?_
        refine lv_aload_n hx hb dX12_count_169 rfl (lv_at hl 2 rfl) ?_
        refine va_get (D := (dC, dI)) (ci := 12) (v := .int 0) (C := RX12) (T := TX12) (N := 57) hx hb hts in12 hown hK hP 1 rfl rfl 56 (by decide) (hts (.fieldLink RX12 316 "FactKeeperModel" "toldKnown" "I") (by decide +kernel)) (fun _ h9 => h9) rfl dX12_count_170 ?_
        refine lv_iload_n hx hb dX12_count_173 rfl (lv_at hl 0 rfl) ?_
        refine lv_ishr hx hb dX12_count_174 ?_
        refine lv_topi (fun z_54 ez_54 => ?_)
        obtain rfl : z_54 = 0 := ez_54.trans (by decide)
        refine lv_iconst (v := 1) hx hb dX12_count_175 (by decide) ?_
        refine lv_iand hx hb dX12_count_176 ?_
        refine lv_topi (fun z_55 ez_55 => ?_)
        obtain rfl : z_55 = 0 := ez_55.trans (by decide)
        refine lv_iadd hx hb dX12_count_177 ?_
        refine lv_topi (fun z_56 ez_56 => ?_)
        obtain rfl : z_56 = 0 := ez_56.trans (by decide)
        refine lv_istore_n (lv' := [(2, .int 0), (3, .int 3), (0, .ref mo), (1, .int 9)]) hx hb dX12_count_178 rfl hl (by decide) rfl (fun ls hl => ?_)
        refine lv_iinc (v := 4) (lv' := [(3, .int 4), (2, .int 0), (0, .ref mo), (1, .int 9)]) hx hb dX12_count_179 hl (k := 1) rfl (by decide) (by decide) rfl (fun ls hl => ?_)
        refine lv_goto (tgt := 162) hx hb dX12_count_182 (by decide) ?_
        refine lv_iload_n hx hb dX12_count_162 rfl (lv_at hl 0 rfl) ?_
        refine lv_bipush (v := 8) hx hb dX12_count_163 (by decide) ?_
        refine lv_icmp_ge (tgt := 185) hx hb dX12_count_165 (by decide) (fun c_57 => absurd c_57 (by decide)) (fun _ => ?_)
        refine lv_iload_n hx hb dX12_count_168 rfl (lv_at hl 1 rfl) ?_
        refine lv_aload_n hx hb dX12_count_169 rfl (lv_at hl 2 rfl) ?_
        refine va_get (D := (dC, dI)) (ci := 12) (v := .int 0) (C := RX12) (T := TX12) (N := 57) hx hb hts in12 hown hK hP 1 rfl rfl 56 (by decide) (hts (.fieldLink RX12 316 "FactKeeperModel" "toldKnown" "I") (by decide +kernel)) (fun _ h9 => h9) rfl dX12_count_170 ?_
        refine lv_iload_n hx hb dX12_count_173 rfl (lv_at hl 0 rfl) ?_
        refine lv_ishr hx hb dX12_count_174 ?_
        refine lv_topi (fun z_58 ez_58 => ?_)
        obtain rfl : z_58 = 0 := ez_58.trans (by decide)
        refine lv_iconst (v := 1) hx hb dX12_count_175 (by decide) ?_
        refine lv_iand hx hb dX12_count_176 ?_
        refine lv_topi (fun z_59 ez_59 => ?_)
        obtain rfl : z_59 = 0 := ez_59.trans (by decide)
        refine lv_iadd hx hb dX12_count_177 ?_
        refine lv_topi (fun z_60 ez_60 => ?_)
        obtain rfl : z_60 = 0 := ez_60.trans (by decide)
        refine lv_istore_n (lv' := [(2, .int 0), (3, .int 4), (0, .ref mo), (1, .int 9)]) hx hb dX12_count_178 rfl hl (by decide) rfl (fun ls hl => ?_)
        refine lv_iinc (v := 5) (lv' := [(3, .int 5), (2, .int 0), (0, .ref mo), (1, .int 9)]) hx hb dX12_count_179 hl (k := 1) rfl (by decide) (by decide) rfl (fun ls hl => ?_)
        refine lv_goto (tgt := 162) hx hb dX12_count_182 (by decide) ?_
        refine lv_iload_n hx hb dX12_count_162 rfl (lv_at hl 0 rfl) ?_
        refine lv_bipush (v := 8) hx hb dX12_count_163 (by decide) ?_
        refine lv_icmp_ge (tgt := 185) hx hb dX12_count_165 (by decide) (fun c_61 => absurd c_61 (by decide)) (fun _ => ?_)
        refine lv_iload_n hx hb dX12_count_168 rfl (lv_at hl 1 rfl) ?_
        refine lv_aload_n hx hb dX12_count_169 rfl (lv_at hl 2 rfl) ?_
        refine va_get (D := (dC, dI)) (ci := 12) (v := .int 0) (C := RX12) (T := TX12) (N := 57) hx hb hts in12 hown hK hP 1 rfl rfl 56 (by decide) (hts (.fieldLink RX12 316 "FactKeeperModel" "toldKnown" "I") (by decide +kernel)) (fun _ h9 => h9) rfl dX12_count_170 ?_
        refine lv_iload_n hx hb dX12_count_173 rfl (lv_at hl 0 rfl) ?_
        refine lv_ishr hx hb dX12_count_174 ?_
        refine lv_topi (fun z_62 ez_62 => ?_)
        obtain rfl : z_62 = 0 := ez_62.trans (by decide)
        refine lv_iconst (v := 1) hx hb dX12_count_175 (by decide) ?_
        refine lv_iand hx hb dX12_count_176 ?_
        refine lv_topi (fun z_63 ez_63 => ?_)
        obtain rfl : z_63 = 0 := ez_63.trans (by decide)
        refine lv_iadd hx hb dX12_count_177 ?_
        refine lv_topi (fun z_64 ez_64 => ?_)
        obtain rfl : z_64 = 0 := ez_64.trans (by decide)
        refine lv_istore_n (lv' := [(2, .int 0), (3, .int 5), (0, .ref mo), (1, .int 9)]) hx hb dX12_count_178 rfl hl (by decide) rfl (fun ls hl => ?_)
        refine lv_iinc (v := 6) (lv' := [(3, .int 6), (2, .int 0), (0, .ref mo), (1, .int 9)]) hx hb dX12_count_179 hl (k := 1) rfl (by decide) (by decide) rfl (fun ls hl => ?_)
        refine lv_goto (tgt := 162) hx hb dX12_count_182 (by decide) ?_
        refine lv_iload_n hx hb dX12_count_162 rfl (lv_at hl 0 rfl) ?_
        refine lv_bipush (v := 8) hx hb dX12_count_163 (by decide) ?_
        refine lv_icmp_ge (tgt := 185) hx hb dX12_count_165 (by decide) (fun c_65 => absurd c_65 (by decide)) (fun _ => ?_)
        refine lv_iload_n hx hb dX12_count_168 rfl (lv_at hl 1 rfl) ?_
        refine lv_aload_n hx hb dX12_count_169 rfl (lv_at hl 2 rfl) ?_
        refine va_get (D := (dC, dI)) (ci := 12) (v := .int 0) (C := RX12) (T := TX12) (N := 57) hx hb hts in12 hown hK hP 1 rfl rfl 56 (by decide) (hts (.fieldLink RX12 316 "FactKeeperModel" "toldKnown" "I") (by decide +kernel)) (fun _ h9 => h9) rfl dX12_count_170 ?_
        refine lv_iload_n hx hb dX12_count_173 rfl (lv_at hl 0 rfl) ?_
        refine lv_ishr hx hb dX12_count_174 ?_
        refine lv_topi (fun z_66 ez_66 => ?_)
        obtain rfl : z_66 = 0 := ez_66.trans (by decide)
        refine lv_iconst (v := 1) hx hb dX12_count_175 (by decide) ?_
        refine lv_iand hx hb dX12_count_176 ?_
        refine lv_topi (fun z_67 ez_67 => ?_)
        obtain rfl : z_67 = 0 := ez_67.trans (by decide)
        refine lv_iadd hx hb dX12_count_177 ?_
        refine lv_topi (fun z_68 ez_68 => ?_)
        obtain rfl : z_68 = 0 := ez_68.trans (by decide)
        refine lv_istore_n (lv' := [(2, .int 0), (3, .int 6), (0, .ref mo), (1, .int 9)]) hx hb dX12_count_178 rfl hl (by decide) rfl (fun ls hl => ?_)
        refine lv_iinc (v := 7) (lv' := [(3, .int 7), (2, .int 0), (0, .ref mo), (1, .int 9)]) hx hb dX12_count_179 hl (k := 1) rfl (by decide) (by decide) rfl (fun ls hl => ?_)
        refine lv_goto (tgt := 162) hx hb dX12_count_182 (by decide) ?_
        refine lv_iload_n hx hb dX12_count_162 rfl (lv_at hl 0 rfl) ?_
        refine lv_bipush (v := 8) hx hb dX12_count_163 (by decide) ?_
        refine lv_icmp_ge (tgt := 185) hx hb dX12_count_165 (by decide) (fun c_69 => absurd c_69 (by decide)) (fun _ => ?_)
        refine lv_iload_n hx hb dX12_count_168 rfl (lv_at hl 1 rfl) ?_
        refine lv_aload_n hx hb dX12_count_169 rfl (lv_at hl 2 rfl) ?_
        refine va_get (D := (dC, dI)) (ci := 12) (v := .int 0) (C := RX12) (T := TX12) (N := 57) hx hb hts in12 hown hK hP 1 rfl rfl 56 (by decide) (hts (.fieldLink RX12 316 "FactKeeperModel" "toldKnown" "I") (by decide +kernel)) (fun _ h9 => h9) rfl dX12_count_170 ?_
        refine lv_iload_n hx hb dX12_count_173 rfl (lv_at hl 0 rfl) ?_
        refine lv_ishr hx hb dX12_count_174 ?_
        refine lv_topi (fun z_70 ez_70 => ?_)
        obtain rfl : z_70 = 0 := ez_70.trans (by decide)
        refine lv_iconst (v := 1) hx hb dX12_count_175 (by decide) ?_
        refine lv_iand hx hb dX12_count_176 ?_
        refine lv_topi (fun z_71 ez_71 => ?_)
        obtain rfl : z_71 = 0 := ez_71.trans (by decide)
        refine lv_iadd hx hb dX12_count_177 ?_
        refine lv_topi (fun z_72 ez_72 => ?_)
        obtain rfl : z_72 = 0 := ez_72.trans (by decide)
        refine lv_istore_n (lv' := [(2, .int 0), (3, .int 7), (0, .ref mo), (1, .int 9)]) hx hb dX12_count_178 rfl hl (by decide) rfl (fun ls hl => ?_)
        refine lv_iinc (v := 8) (lv' := [(3, .int 8), (2, .int 0), (0, .ref mo), (1, .int 9)]) hx hb dX12_count_179 hl (k := 1) rfl (by decide) (by decide) rfl (fun ls hl => ?_)
        refine lv_goto (tgt := 162) hx hb dX12_count_182 (by decide) ?_
        refine lv_iload_n hx hb dX12_count_162 rfl (lv_at hl 0 rfl) ?_
        refine lv_bipush (v := 8) hx hb dX12_count_163 (by decide) ?_
        refine lv_icmp_ge (tgt := 185) hx hb dX12_count_165 (by decide) (fun _ => ?_) (fun c_73 => absurd c_73 (by decide))
        refine lv_iload_n hx hb dX12_count_185 rfl (lv_at hl 1 rfl) ?_
        have hP9 := hP.sub (ws' := [(mo, .inr (12, [.int 0, .ref m1, .int 0, .ref m3, .ref m4, .ref m5, .ref m6, .ref m7, .ref m8, .ref m9, .int 0, .ref m11, .ref m12, .ref m13, .ref m14, .ref m15, .ref m16, .ref m17, .ref m18, .ref m19, .int 0, .int 0, .int 0, .int 0, .ref m24, .int 0, .ref m26, .int 0, .ref m28, .ref m29, .ref m30, .ref m31, .ref m32, .ref m33, .ref m34, .ref m35, .ref m36, .int 0, .int 0, .int 0, .int 0, .int 0, .int (-1), .int 0, .ref m44, .ref m45, .ref m46, .ref m47, .ref m48, .int 0, .ref m50, .ref m51, .ref m52, .ref m53, .ref m54, .int 0, .int 0]))]) [1] rfl
        have hD9 := hD.sub (ws' := [(mo, .inr (12, [.int 0, .ref m1, .int 0, .ref m3, .ref m4, .ref m5, .ref m6, .ref m7, .ref m8, .ref m9, .int 0, .ref m11, .ref m12, .ref m13, .ref m14, .ref m15, .ref m16, .ref m17, .ref m18, .ref m19, .int 0, .int 0, .int 0, .int 0, .ref m24, .int 0, .ref m26, .int 0, .ref m28, .ref m29, .ref m30, .ref m31, .ref m32, .ref m33, .ref m34, .ref m35, .ref m36, .int 0, .int 0, .int 0, .int 0, .int 0, .int (-1), .int 0, .ref m44, .ref m45, .ref m46, .ref m47, .ref m48, .int 0, .ref m50, .ref m51, .ref m52, .ref m53, .ref m54, .int 0, .int 0]))]) [1] (by decide) rfl
        have hK9 := hK.sub (tys' := []) [] rfl
        refine W.widen (k := 0) (n := 0) (Nat.le_of_ble_eq_true rfl) (Nat.le_of_ble_eq_true rfl) ?_
        exact (W.iret (v := 0) hx hb hr (fun t ht hW => ⟨⟨0, 0, rfl, Or.inr ⟨rfl, fun h => h.elim c_1 (fun q => q (i_921 c_5)), (by decide)⟩, by rw [ht]; exact hP9, va_K.moved hW.alike hK9, hD9⟩, hS.F ht⟩) hS.2.2 dX12_count_186)
      · skip
        refine lv_tableOut (tgt := 187) hx hb dX12_count_39 hsw (by decide) ?_
        refine lv_aload_n hx hb dX12_count_187 rfl (lv_at hl 1 rfl) ?_
        refine lv_iload_n hx hb dX12_count_188 rfl (lv_at hl 2 rfl) ?_
        refine lv_bipush (v := 10) hx hb dX12_count_189 (by decide) ?_
        refine lv_isub hx hb dX12_count_191 ?_
        refine lv_topi (fun z_74 ez_74 => ?_)
        refine ct_i (wr := [(m28, .inl (k28, 10, .inl (fun _ => 0)))]) (tyr := [(k28, .boolean)]) (va_runV (As := [.int z_74]) (rest := []) ⟨hx, hb, hml, hown, hts⟩ (m_isTable l hl0 dC dI mo m1 m3 m4 m5 m6 m7 m8 m9 m11 m12 m13 m14 m15 m16 m17 m18 m19 m24 m26 m28 m29 m30 m31 m32 m33 m34 m35 m36 m44 m45 m46 m47 m48 m50 m51 m52 m53 m54 z_74 H.size ) (cwV 1 hts gX12_count_X12_isTable rfl rfl rfl (by decide +kernel) ⟨Nat.le_of_ble_eq_true rfl, Nat.le_of_ble_eq_true rfl⟩) (ct_preV (ci := 12) (q0 := 1) hP hD hK hS hA hZ rfl rfl [1] [] rfl (by decide) rfl) rfl rfl hl.1 rfl (lv_room (Nat.le_of_ble_eq_true rfl)) dX12_count_192 ⟨Nat.le_of_ble_eq_true rfl, Nat.le_of_ble_eq_true rfl⟩) hP hD hK hS hA [1] [0] [0] rfl rfl (by decide) (by decide) rfl (fun r_75 u H locs w_76 hP hD hK hS => ?_)
        try dsimp only at w_76
        have hP : va_P (dC, dI) vwCl [(m28, .inl (k28, 10, .inl (fun _ => 0))), (mo, .inr (12, [.int 0, .ref m1, .int 0, .ref m3, .ref m4, .ref m5, .ref m6, .ref m7, .ref m8, .ref m9, .int 0, .ref m11, .ref m12, .ref m13, .ref m14, .ref m15, .ref m16, .ref m17, .ref m18, .ref m19, .int 0, .int 0, .int 0, .int 0, .ref m24, .int 0, .ref m26, .int 0, .ref m28, .ref m29, .ref m30, .ref m31, .ref m32, .ref m33, .ref m34, .ref m35, .ref m36, .int 0, .int 0, .int 0, .int 0, .int 0, .int (-1), .int 0, .ref m44, .ref m45, .ref m46, .ref m47, .ref m48, .int 0, .ref m50, .ref m51, .ref m52, .ref m53, .ref m54, .int 0, .int 0]))] H := hP
        have hD : va_D A [(m28, .inl (k28, 10, .inl (fun _ => 0))), (mo, .inr (12, [.int 0, .ref m1, .int 0, .ref m3, .ref m4, .ref m5, .ref m6, .ref m7, .ref m8, .ref m9, .int 0, .ref m11, .ref m12, .ref m13, .ref m14, .ref m15, .ref m16, .ref m17, .ref m18, .ref m19, .int 0, .int 0, .int 0, .int 0, .ref m24, .int 0, .ref m26, .int 0, .ref m28, .ref m29, .ref m30, .ref m31, .ref m32, .ref m33, .ref m34, .ref m35, .ref m36, .int 0, .int 0, .int 0, .int 0, .int 0, .int (-1), .int 0, .ref m44, .ref m45, .ref m46, .ref m47, .ref m48, .int 0, .ref m50, .ref m51, .ref m52, .ref m53, .ref m54, .int 0, .int 0]))] := hD
        have hK : va_K (dC, dI) vwCl [(k28, .boolean)] s := hK
        obtain rfl : r_75 = 0 := w_76
        refine lv_if_ne (tgt := 200) hx hb dX12_count_195 (by decide) (fun c_77 => absurd c_77 (by decide)) (fun _ => ?_)
        refine lv_iconst (v := (-1)) hx hb dX12_count_198 (by decide) ?_
        have hP9 := hP.sub (ws' := [(mo, .inr (12, [.int 0, .ref m1, .int 0, .ref m3, .ref m4, .ref m5, .ref m6, .ref m7, .ref m8, .ref m9, .int 0, .ref m11, .ref m12, .ref m13, .ref m14, .ref m15, .ref m16, .ref m17, .ref m18, .ref m19, .int 0, .int 0, .int 0, .int 0, .ref m24, .int 0, .ref m26, .int 0, .ref m28, .ref m29, .ref m30, .ref m31, .ref m32, .ref m33, .ref m34, .ref m35, .ref m36, .int 0, .int 0, .int 0, .int 0, .int 0, .int (-1), .int 0, .ref m44, .ref m45, .ref m46, .ref m47, .ref m48, .int 0, .ref m50, .ref m51, .ref m52, .ref m53, .ref m54, .int 0, .int 0]))]) [1] rfl
        have hD9 := hD.sub (ws' := [(mo, .inr (12, [.int 0, .ref m1, .int 0, .ref m3, .ref m4, .ref m5, .ref m6, .ref m7, .ref m8, .ref m9, .int 0, .ref m11, .ref m12, .ref m13, .ref m14, .ref m15, .ref m16, .ref m17, .ref m18, .ref m19, .int 0, .int 0, .int 0, .int 0, .ref m24, .int 0, .ref m26, .int 0, .ref m28, .ref m29, .ref m30, .ref m31, .ref m32, .ref m33, .ref m34, .ref m35, .ref m36, .int 0, .int 0, .int 0, .int 0, .int 0, .int (-1), .int 0, .ref m44, .ref m45, .ref m46, .ref m47, .ref m48, .int 0, .ref m50, .ref m51, .ref m52, .ref m53, .ref m54, .int 0, .int 0]))]) [1] (by decide) rfl
        have hK9 := hK.sub (tys' := []) [] rfl
        refine W.widen (k := 0) (n := 0) (Nat.le_of_ble_eq_true rfl) (Nat.le_of_ble_eq_true rfl) ?_
        exact (W.iret (v := (-1)) hx hb hr (fun t ht hW => ⟨⟨(-1), 0, rfl, Or.inr ⟨rfl, fun h => h.elim c_1 (fun q => q (i_921 c_5)), (sp_cnt_hi c_1 hsw)⟩, by rw [ht]; exact hP9, va_K.moved hW.alike hK9, hD9⟩, hS.F ht⟩) hS.2.2 dX12_count_199)
    · skip
      refine lv_iload_n hx hb dX12_count_11 rfl (lv_at hl 1 rfl) ?_
      refine lv_bipush (v := 10) hx hb dX12_count_12 (by decide) ?_
      refine lv_icmp_lt (tgt := 23) hx hb dX12_count_14 (by decide) (fun c_78 => absurd c_78 (i_n9 c_5)) (fun c_78 => ?_)
      refine lv_iload_n hx hb dX12_count_17 rfl (lv_at hl 1 rfl) ?_
      refine lv_bipush (v := 21) hx hb dX12_count_18 (by decide) ?_
      refine lv_icmp_le (tgt := 27) hx hb dX12_count_20 (by decide) (fun c_79 => ?_) (fun c_79 => ?_)
      · skip
        refine lv_iconst (v := 0) hx hb dX12_count_27 (by decide) ?_
        refine ct_i (wr := [(m28, .inl (k28, 10, .inl (fun _ => 0)))]) (tyr := [(k28, .boolean)]) (va_runV (As := [.int 0]) (rest := []) ⟨hx, hb, hml, hown, hts⟩ (c_fails0 l hl0 dC dI mo m1 m3 m4 m5 m6 m7 m8 m9 m11 m12 m13 m14 m15 m16 m17 m18 m19 m24 m26 m28 m29 m30 m31 m32 m33 m34 m35 m36 m44 m45 m46 m47 m48 m50 m51 m52 m53 m54 0 0 0 (-1) 0 0 s.heap.size ) (cwV 1 hts gX12_count_X12_fails rfl rfl rfl (by decide +kernel) ⟨Nat.le_of_ble_eq_true rfl, Nat.le_of_ble_eq_true rfl⟩) (ct_preV (ci := 12) (q0 := 0) hP hD hK hS hA hZ rfl rfl [0] [] rfl (by decide) rfl) rfl rfl hl.1 rfl (lv_room (Nat.le_of_ble_eq_true rfl)) dX12_count_28 ⟨Nat.le_of_ble_eq_true rfl, Nat.le_of_ble_eq_true rfl⟩) hP hD hK hS hA [0] [1] [0] rfl rfl (by decide) (by decide) rfl (fun r_80 u H locs w_81 hP hD hK hS => ?_)
        try dsimp only at w_81
        have hP : va_P (dC, dI) vwCl [(m28, .inl (k28, 10, .inl (fun _ => 0))), (mo, .inr (12, [.int 0, .ref m1, .int 0, .ref m3, .ref m4, .ref m5, .ref m6, .ref m7, .ref m8, .ref m9, .int 0, .ref m11, .ref m12, .ref m13, .ref m14, .ref m15, .ref m16, .ref m17, .ref m18, .ref m19, .int 0, .int 0, .int 0, .int 0, .ref m24, .int 0, .ref m26, .int 0, .ref m28, .ref m29, .ref m30, .ref m31, .ref m32, .ref m33, .ref m34, .ref m35, .ref m36, .int 0, .int 0, .int 0, .int 0, .int 0, .int (-1), .int 0, .ref m44, .ref m45, .ref m46, .ref m47, .ref m48, .int 0, .ref m50, .ref m51, .ref m52, .ref m53, .ref m54, .int 0, .int 0]))] H := hP
        have hD : va_D A [(m28, .inl (k28, 10, .inl (fun _ => 0))), (mo, .inr (12, [.int 0, .ref m1, .int 0, .ref m3, .ref m4, .ref m5, .ref m6, .ref m7, .ref m8, .ref m9, .int 0, .ref m11, .ref m12, .ref m13, .ref m14, .ref m15, .ref m16, .ref m17, .ref m18, .ref m19, .int 0, .int 0, .int 0, .int 0, .ref m24, .int 0, .ref m26, .int 0, .ref m28, .ref m29, .ref m30, .ref m31, .ref m32, .ref m33, .ref m34, .ref m35, .ref m36, .int 0, .int 0, .int 0, .int 0, .int 0, .int (-1), .int 0, .ref m44, .ref m45, .ref m46, .ref m47, .ref m48, .int 0, .ref m50, .ref m51, .ref m52, .ref m53, .ref m54, .int 0, .int 0]))] := hD
        have hK : va_K (dC, dI) vwCl [(k28, .boolean)] s := hK
        obtain rfl : r_80 = 0 := w_81
        refine lv_if_eq (tgt := 36) hx hb dX12_count_31 (by decide) (fun _ => ?_) (fun c_82 => absurd c_82 (by decide))
        refine lv_iconst (v := 0) hx hb dX12_count_36 (by decide) ?_
        refine lv_istore_n (lv' := [(2, .int 0), (0, .ref mo), (1, .int wh)]) hx hb dX12_count_37 rfl hl (by decide) rfl (fun ls hl => ?_)
        refine lv_iload_n hx hb dX12_count_38 rfl (lv_at hl 2 rfl) ?_
        rcases sp_c10 wh with rfl | rfl | rfl | rfl | rfl | rfl | rfl | rfl | rfl | rfl | hsw
        · skip
          refine lv_tableIn (off := 53) (tgt := 92) hx hb dX12_count_39 (by decide) (by decide) (by decide) (by decide) ?_
          refine lv_aload_n hx hb dX12_count_92 rfl (lv_at hl 1 rfl) ?_
          refine va_get (D := (dC, dI)) (ci := 12) (v := .int 0) (C := RX12) (T := TX12) (N := 57) hx hb hts in12 hown hK hP 1 rfl rfl 2 (by decide) (hts (.fieldLink RX12 133 "FactKeeperModel" "taped" "I") (by decide +kernel)) (fun _ h9 => h9) rfl dX12_count_93 ?_
          have hP9 := hP.sub (ws' := [(mo, .inr (12, [.int 0, .ref m1, .int 0, .ref m3, .ref m4, .ref m5, .ref m6, .ref m7, .ref m8, .ref m9, .int 0, .ref m11, .ref m12, .ref m13, .ref m14, .ref m15, .ref m16, .ref m17, .ref m18, .ref m19, .int 0, .int 0, .int 0, .int 0, .ref m24, .int 0, .ref m26, .int 0, .ref m28, .ref m29, .ref m30, .ref m31, .ref m32, .ref m33, .ref m34, .ref m35, .ref m36, .int 0, .int 0, .int 0, .int 0, .int 0, .int (-1), .int 0, .ref m44, .ref m45, .ref m46, .ref m47, .ref m48, .int 0, .ref m50, .ref m51, .ref m52, .ref m53, .ref m54, .int 0, .int 0]))]) [1] rfl
          have hD9 := hD.sub (ws' := [(mo, .inr (12, [.int 0, .ref m1, .int 0, .ref m3, .ref m4, .ref m5, .ref m6, .ref m7, .ref m8, .ref m9, .int 0, .ref m11, .ref m12, .ref m13, .ref m14, .ref m15, .ref m16, .ref m17, .ref m18, .ref m19, .int 0, .int 0, .int 0, .int 0, .ref m24, .int 0, .ref m26, .int 0, .ref m28, .ref m29, .ref m30, .ref m31, .ref m32, .ref m33, .ref m34, .ref m35, .ref m36, .int 0, .int 0, .int 0, .int 0, .int 0, .int (-1), .int 0, .ref m44, .ref m45, .ref m46, .ref m47, .ref m48, .int 0, .ref m50, .ref m51, .ref m52, .ref m53, .ref m54, .int 0, .int 0]))]) [1] (by decide) rfl
          have hK9 := hK.sub (tys' := []) [] rfl
          refine W.widen (k := 0) (n := 0) (Nat.le_of_ble_eq_true rfl) (Nat.le_of_ble_eq_true rfl) ?_
          exact (W.iret (v := 0) hx hb hr (fun t ht hW => ⟨⟨0, 0, rfl, Or.inr ⟨rfl, fun h => h.elim c_1 (fun q => q c_79), (by decide)⟩, by rw [ht]; exact hP9, va_K.moved hW.alike hK9, hD9⟩, hS.F ht⟩) hS.2.2 dX12_count_96)
        · skip
          refine lv_tableIn (off := 58) (tgt := 97) hx hb dX12_count_39 (by decide) (by decide) (by decide) (by decide) ?_
          refine lv_aload_n hx hb dX12_count_97 rfl (lv_at hl 1 rfl) ?_
          refine va_get (D := (dC, dI)) (ci := 12) (v := .int 0) (C := RX12) (T := TX12) (N := 57) hx hb hts in12 hown hK hP 1 rfl rfl 10 (by decide) (hts (.fieldLink RX12 144 "FactKeeperModel" "tables" "I") (by decide +kernel)) (fun _ h9 => h9) rfl dX12_count_98 ?_
          have hP9 := hP.sub (ws' := [(mo, .inr (12, [.int 0, .ref m1, .int 0, .ref m3, .ref m4, .ref m5, .ref m6, .ref m7, .ref m8, .ref m9, .int 0, .ref m11, .ref m12, .ref m13, .ref m14, .ref m15, .ref m16, .ref m17, .ref m18, .ref m19, .int 0, .int 0, .int 0, .int 0, .ref m24, .int 0, .ref m26, .int 0, .ref m28, .ref m29, .ref m30, .ref m31, .ref m32, .ref m33, .ref m34, .ref m35, .ref m36, .int 0, .int 0, .int 0, .int 0, .int 0, .int (-1), .int 0, .ref m44, .ref m45, .ref m46, .ref m47, .ref m48, .int 0, .ref m50, .ref m51, .ref m52, .ref m53, .ref m54, .int 0, .int 0]))]) [1] rfl
          have hD9 := hD.sub (ws' := [(mo, .inr (12, [.int 0, .ref m1, .int 0, .ref m3, .ref m4, .ref m5, .ref m6, .ref m7, .ref m8, .ref m9, .int 0, .ref m11, .ref m12, .ref m13, .ref m14, .ref m15, .ref m16, .ref m17, .ref m18, .ref m19, .int 0, .int 0, .int 0, .int 0, .ref m24, .int 0, .ref m26, .int 0, .ref m28, .ref m29, .ref m30, .ref m31, .ref m32, .ref m33, .ref m34, .ref m35, .ref m36, .int 0, .int 0, .int 0, .int 0, .int 0, .int (-1), .int 0, .ref m44, .ref m45, .ref m46, .ref m47, .ref m48, .int 0, .ref m50, .ref m51, .ref m52, .ref m53, .ref m54, .int 0, .int 0]))]) [1] (by decide) rfl
          have hK9 := hK.sub (tys' := []) [] rfl
          refine W.widen (k := 0) (n := 0) (Nat.le_of_ble_eq_true rfl) (Nat.le_of_ble_eq_true rfl) ?_
          exact (W.iret (v := 0) hx hb hr (fun t ht hW => ⟨⟨0, 0, rfl, Or.inr ⟨rfl, fun h => h.elim c_1 (fun q => q c_79), (by decide)⟩, by rw [ht]; exact hP9, va_K.moved hW.alike hK9, hD9⟩, hS.F ht⟩) hS.2.2 dX12_count_101)
        · skip
          refine lv_tableIn (off := 63) (tgt := 102) hx hb dX12_count_39 (by decide) (by decide) (by decide) (by decide) ?_
          refine lv_aload_n hx hb dX12_count_102 rfl (lv_at hl 1 rfl) ?_
          refine va_get (D := (dC, dI)) (ci := 12) (v := .int 0) (C := RX12) (T := TX12) (N := 57) hx hb hts in12 hown hK hP 1 rfl rfl 22 (by decide) (hts (.fieldLink RX12 150 "FactKeeperModel" "time" "I") (by decide +kernel)) (fun _ h9 => h9) rfl dX12_count_103 ?_
          have hP9 := hP.sub (ws' := [(mo, .inr (12, [.int 0, .ref m1, .int 0, .ref m3, .ref m4, .ref m5, .ref m6, .ref m7, .ref m8, .ref m9, .int 0, .ref m11, .ref m12, .ref m13, .ref m14, .ref m15, .ref m16, .ref m17, .ref m18, .ref m19, .int 0, .int 0, .int 0, .int 0, .ref m24, .int 0, .ref m26, .int 0, .ref m28, .ref m29, .ref m30, .ref m31, .ref m32, .ref m33, .ref m34, .ref m35, .ref m36, .int 0, .int 0, .int 0, .int 0, .int 0, .int (-1), .int 0, .ref m44, .ref m45, .ref m46, .ref m47, .ref m48, .int 0, .ref m50, .ref m51, .ref m52, .ref m53, .ref m54, .int 0, .int 0]))]) [1] rfl
          have hD9 := hD.sub (ws' := [(mo, .inr (12, [.int 0, .ref m1, .int 0, .ref m3, .ref m4, .ref m5, .ref m6, .ref m7, .ref m8, .ref m9, .int 0, .ref m11, .ref m12, .ref m13, .ref m14, .ref m15, .ref m16, .ref m17, .ref m18, .ref m19, .int 0, .int 0, .int 0, .int 0, .ref m24, .int 0, .ref m26, .int 0, .ref m28, .ref m29, .ref m30, .ref m31, .ref m32, .ref m33, .ref m34, .ref m35, .ref m36, .int 0, .int 0, .int 0, .int 0, .int 0, .int (-1), .int 0, .ref m44, .ref m45, .ref m46, .ref m47, .ref m48, .int 0, .ref m50, .ref m51, .ref m52, .ref m53, .ref m54, .int 0, .int 0]))]) [1] (by decide) rfl
          have hK9 := hK.sub (tys' := []) [] rfl
          refine W.widen (k := 0) (n := 0) (Nat.le_of_ble_eq_true rfl) (Nat.le_of_ble_eq_true rfl) ?_
          exact (W.iret (v := 0) hx hb hr (fun t ht hW => ⟨⟨0, 0, rfl, Or.inr ⟨rfl, fun h => h.elim c_1 (fun q => q c_79), (by decide)⟩, by rw [ht]; exact hP9, va_K.moved hW.alike hK9, hD9⟩, hS.F ht⟩) hS.2.2 dX12_count_106)
        · skip
          refine lv_tableIn (off := 68) (tgt := 107) hx hb dX12_count_39 (by decide) (by decide) (by decide) (by decide) ?_
          refine lv_aload_n hx hb dX12_count_107 rfl (lv_at hl 1 rfl) ?_
          refine va_get (D := (dC, dI)) (ci := 12) (v := .int 0) (C := RX12) (T := TX12) (N := 57) hx hb hts in12 hown hK hP 1 rfl rfl 20 (by decide) (hts (.fieldLink RX12 187 "FactKeeperModel" "kept" "I") (by decide +kernel)) (fun _ h9 => h9) rfl dX12_count_108 ?_
          have hP9 := hP.sub (ws' := [(mo, .inr (12, [.int 0, .ref m1, .int 0, .ref m3, .ref m4, .ref m5, .ref m6, .ref m7, .ref m8, .ref m9, .int 0, .ref m11, .ref m12, .ref m13, .ref m14, .ref m15, .ref m16, .ref m17, .ref m18, .ref m19, .int 0, .int 0, .int 0, .int 0, .ref m24, .int 0, .ref m26, .int 0, .ref m28, .ref m29, .ref m30, .ref m31, .ref m32, .ref m33, .ref m34, .ref m35, .ref m36, .int 0, .int 0, .int 0, .int 0, .int 0, .int (-1), .int 0, .ref m44, .ref m45, .ref m46, .ref m47, .ref m48, .int 0, .ref m50, .ref m51, .ref m52, .ref m53, .ref m54, .int 0, .int 0]))]) [1] rfl
          have hD9 := hD.sub (ws' := [(mo, .inr (12, [.int 0, .ref m1, .int 0, .ref m3, .ref m4, .ref m5, .ref m6, .ref m7, .ref m8, .ref m9, .int 0, .ref m11, .ref m12, .ref m13, .ref m14, .ref m15, .ref m16, .ref m17, .ref m18, .ref m19, .int 0, .int 0, .int 0, .int 0, .ref m24, .int 0, .ref m26, .int 0, .ref m28, .ref m29, .ref m30, .ref m31, .ref m32, .ref m33, .ref m34, .ref m35, .ref m36, .int 0, .int 0, .int 0, .int 0, .int 0, .int (-1), .int 0, .ref m44, .ref m45, .ref m46, .ref m47, .ref m48, .int 0, .ref m50, .ref m51, .ref m52, .ref m53, .ref m54, .int 0, .int 0]))]) [1] (by decide) rfl
          have hK9 := hK.sub (tys' := []) [] rfl
          refine W.widen (k := 0) (n := 0) (Nat.le_of_ble_eq_true rfl) (Nat.le_of_ble_eq_true rfl) ?_
          exact (W.iret (v := 0) hx hb hr (fun t ht hW => ⟨⟨0, 0, rfl, Or.inr ⟨rfl, fun h => h.elim c_1 (fun q => q c_79), (by decide)⟩, by rw [ht]; exact hP9, va_K.moved hW.alike hK9, hD9⟩, hS.F ht⟩) hS.2.2 dX12_count_111)
        · skip
          refine lv_tableIn (off := 73) (tgt := 112) hx hb dX12_count_39 (by decide) (by decide) (by decide) (by decide) ?_
          refine lv_aload_n hx hb dX12_count_112 rfl (lv_at hl 1 rfl) ?_
          refine va_get (D := (dC, dI)) (ci := 12) (v := .int 0) (C := RX12) (T := TX12) (N := 57) hx hb hts in12 hown hK hP 1 rfl rfl 23 (by decide) (hts (.fieldLink RX12 147 "FactKeeperModel" "horizon" "I") (by decide +kernel)) (fun _ h9 => h9) rfl dX12_count_113 ?_
          have hP9 := hP.sub (ws' := [(mo, .inr (12, [.int 0, .ref m1, .int 0, .ref m3, .ref m4, .ref m5, .ref m6, .ref m7, .ref m8, .ref m9, .int 0, .ref m11, .ref m12, .ref m13, .ref m14, .ref m15, .ref m16, .ref m17, .ref m18, .ref m19, .int 0, .int 0, .int 0, .int 0, .ref m24, .int 0, .ref m26, .int 0, .ref m28, .ref m29, .ref m30, .ref m31, .ref m32, .ref m33, .ref m34, .ref m35, .ref m36, .int 0, .int 0, .int 0, .int 0, .int 0, .int (-1), .int 0, .ref m44, .ref m45, .ref m46, .ref m47, .ref m48, .int 0, .ref m50, .ref m51, .ref m52, .ref m53, .ref m54, .int 0, .int 0]))]) [1] rfl
          have hD9 := hD.sub (ws' := [(mo, .inr (12, [.int 0, .ref m1, .int 0, .ref m3, .ref m4, .ref m5, .ref m6, .ref m7, .ref m8, .ref m9, .int 0, .ref m11, .ref m12, .ref m13, .ref m14, .ref m15, .ref m16, .ref m17, .ref m18, .ref m19, .int 0, .int 0, .int 0, .int 0, .ref m24, .int 0, .ref m26, .int 0, .ref m28, .ref m29, .ref m30, .ref m31, .ref m32, .ref m33, .ref m34, .ref m35, .ref m36, .int 0, .int 0, .int 0, .int 0, .int 0, .int (-1), .int 0, .ref m44, .ref m45, .ref m46, .ref m47, .ref m48, .int 0, .ref m50, .ref m51, .ref m52, .ref m53, .ref m54, .int 0, .int 0]))]) [1] (by decide) rfl
          have hK9 := hK.sub (tys' := []) [] rfl
          refine W.widen (k := 0) (n := 0) (Nat.le_of_ble_eq_true rfl) (Nat.le_of_ble_eq_true rfl) ?_
          exact (W.iret (v := 0) hx hb hr (fun t ht hW => ⟨⟨0, 0, rfl, Or.inr ⟨rfl, fun h => h.elim c_1 (fun q => q c_79), (by decide)⟩, by rw [ht]; exact hP9, va_K.moved hW.alike hK9, hD9⟩, hS.F ht⟩) hS.2.2 dX12_count_116)
        · skip
          refine lv_tableIn (off := 78) (tgt := 117) hx hb dX12_count_39 (by decide) (by decide) (by decide) (by decide) ?_
          refine lv_aload_n hx hb dX12_count_117 rfl (lv_at hl 1 rfl) ?_
          refine va_get (D := (dC, dI)) (ci := 12) (v := .int 0) (C := RX12) (T := TX12) (N := 57) hx hb hts in12 hown hK hP 1 rfl rfl 38 (by decide) (hts (.fieldLink RX12 168 "FactKeeperModel" "looked" "I") (by decide +kernel)) (fun _ h9 => h9) rfl dX12_count_118 ?_
          have hP9 := hP.sub (ws' := [(mo, .inr (12, [.int 0, .ref m1, .int 0, .ref m3, .ref m4, .ref m5, .ref m6, .ref m7, .ref m8, .ref m9, .int 0, .ref m11, .ref m12, .ref m13, .ref m14, .ref m15, .ref m16, .ref m17, .ref m18, .ref m19, .int 0, .int 0, .int 0, .int 0, .ref m24, .int 0, .ref m26, .int 0, .ref m28, .ref m29, .ref m30, .ref m31, .ref m32, .ref m33, .ref m34, .ref m35, .ref m36, .int 0, .int 0, .int 0, .int 0, .int 0, .int (-1), .int 0, .ref m44, .ref m45, .ref m46, .ref m47, .ref m48, .int 0, .ref m50, .ref m51, .ref m52, .ref m53, .ref m54, .int 0, .int 0]))]) [1] rfl
          have hD9 := hD.sub (ws' := [(mo, .inr (12, [.int 0, .ref m1, .int 0, .ref m3, .ref m4, .ref m5, .ref m6, .ref m7, .ref m8, .ref m9, .int 0, .ref m11, .ref m12, .ref m13, .ref m14, .ref m15, .ref m16, .ref m17, .ref m18, .ref m19, .int 0, .int 0, .int 0, .int 0, .ref m24, .int 0, .ref m26, .int 0, .ref m28, .ref m29, .ref m30, .ref m31, .ref m32, .ref m33, .ref m34, .ref m35, .ref m36, .int 0, .int 0, .int 0, .int 0, .int 0, .int (-1), .int 0, .ref m44, .ref m45, .ref m46, .ref m47, .ref m48, .int 0, .ref m50, .ref m51, .ref m52, .ref m53, .ref m54, .int 0, .int 0]))]) [1] (by decide) rfl
          have hK9 := hK.sub (tys' := []) [] rfl
          refine W.widen (k := 0) (n := 0) (Nat.le_of_ble_eq_true rfl) (Nat.le_of_ble_eq_true rfl) ?_
          exact (W.iret (v := 0) hx hb hr (fun t ht hW => ⟨⟨0, 0, rfl, Or.inr ⟨rfl, fun h => h.elim c_1 (fun q => q c_79), (by decide)⟩, by rw [ht]; exact hP9, va_K.moved hW.alike hK9, hD9⟩, hS.F ht⟩) hS.2.2 dX12_count_121)
        · skip
          refine lv_tableIn (off := 83) (tgt := 122) hx hb dX12_count_39 (by decide) (by decide) (by decide) (by decide) ?_
          refine lv_aload_n hx hb dX12_count_122 rfl (lv_at hl 1 rfl) ?_
          refine va_get (D := (dC, dI)) (ci := 12) (v := .int (-1)) (C := RX12) (T := TX12) (N := 57) hx hb hts in12 hown hK hP 1 rfl rfl 42 (by decide) (hts (.fieldLink RX12 100 "FactKeeperModel" "broken" "I") (by decide +kernel)) (fun _ h9 => h9) rfl dX12_count_123 ?_
          have hP9 := hP.sub (ws' := [(mo, .inr (12, [.int 0, .ref m1, .int 0, .ref m3, .ref m4, .ref m5, .ref m6, .ref m7, .ref m8, .ref m9, .int 0, .ref m11, .ref m12, .ref m13, .ref m14, .ref m15, .ref m16, .ref m17, .ref m18, .ref m19, .int 0, .int 0, .int 0, .int 0, .ref m24, .int 0, .ref m26, .int 0, .ref m28, .ref m29, .ref m30, .ref m31, .ref m32, .ref m33, .ref m34, .ref m35, .ref m36, .int 0, .int 0, .int 0, .int 0, .int 0, .int (-1), .int 0, .ref m44, .ref m45, .ref m46, .ref m47, .ref m48, .int 0, .ref m50, .ref m51, .ref m52, .ref m53, .ref m54, .int 0, .int 0]))]) [1] rfl
          have hD9 := hD.sub (ws' := [(mo, .inr (12, [.int 0, .ref m1, .int 0, .ref m3, .ref m4, .ref m5, .ref m6, .ref m7, .ref m8, .ref m9, .int 0, .ref m11, .ref m12, .ref m13, .ref m14, .ref m15, .ref m16, .ref m17, .ref m18, .ref m19, .int 0, .int 0, .int 0, .int 0, .ref m24, .int 0, .ref m26, .int 0, .ref m28, .ref m29, .ref m30, .ref m31, .ref m32, .ref m33, .ref m34, .ref m35, .ref m36, .int 0, .int 0, .int 0, .int 0, .int 0, .int (-1), .int 0, .ref m44, .ref m45, .ref m46, .ref m47, .ref m48, .int 0, .ref m50, .ref m51, .ref m52, .ref m53, .ref m54, .int 0, .int 0]))]) [1] (by decide) rfl
          have hK9 := hK.sub (tys' := []) [] rfl
          refine W.widen (k := 0) (n := 0) (Nat.le_of_ble_eq_true rfl) (Nat.le_of_ble_eq_true rfl) ?_
          exact (W.iret (v := (-1)) hx hb hr (fun t ht hW => ⟨⟨(-1), 0, rfl, Or.inr ⟨rfl, fun h => h.elim c_1 (fun q => q c_79), (by decide)⟩, by rw [ht]; exact hP9, va_K.moved hW.alike hK9, hD9⟩, hS.F ht⟩) hS.2.2 dX12_count_126)
        · skip
          refine lv_tableIn (off := 88) (tgt := 127) hx hb dX12_count_39 (by decide) (by decide) (by decide) (by decide) ?_
          refine lv_iconst (v := 0) hx hb dX12_count_127 (by decide) ?_
          refine lv_istore_n (lv' := [(3, .int 0), (2, .int 0), (0, .ref mo), (1, .int 7)]) hx hb dX12_count_128 rfl hl (by decide) rfl (fun ls hl => ?_)
          refine lv_iload_n hx hb dX12_count_129 rfl (lv_at hl 0 rfl) ?_
          refine lv_bipush (v := 10) hx hb dX12_count_130 (by decide) ?_
          refine lv_icmp_ge (tgt := 153) hx hb dX12_count_132 (by decide) (fun c_83 => absurd c_83 (by decide)) (fun _ => ?_)
          refine lv_aload_n hx hb dX12_count_135 rfl (lv_at hl 2 rfl) ?_
          refine va_get (D := (dC, dI)) (ci := 12) (v := .ref m28) (C := RX12) (T := TX12) (N := 57) hx hb hts in12 hown hK hP 1 rfl rfl 28 (by decide) (hts (.fieldLink RX12 73 "FactKeeperModel" "isOpen" "[Z") (by decide +kernel)) (fun _ h9 => h9) rfl dX12_count_136 ?_
          refine lv_iload_n hx hb dX12_count_139 rfl (lv_at hl 0 rfl) ?_
          refine va_zald hx hb hK hP 0 0 rfl rfl (by unfold vp_in; decide) dX12_count_140 ?_
          refine lv_topi (fun z_84 ez_84 => ?_)
          obtain rfl : z_84 = 0 := ez_84
          refine lv_if_eq (tgt := 147) hx hb dX12_count_141 (by decide) (fun _ => ?_) (fun c_85 => absurd c_85 (by decide))
          refine lv_iinc (v := 1) (lv' := [(3, .int 1), (2, .int 0), (0, .ref mo), (1, .int 7)]) hx hb dX12_count_147 hl (k := 0) rfl (by decide) (by decide) rfl (fun ls hl => ?_)
          refine lv_goto (tgt := 129) hx hb dX12_count_150 (by decide) ?_
          refine lv_iload_n hx hb dX12_count_129 rfl (lv_at hl 0 rfl) ?_
          refine lv_bipush (v := 10) hx hb dX12_count_130 (by decide) ?_
          refine lv_icmp_ge (tgt := 153) hx hb dX12_count_132 (by decide) (fun c_86 => absurd c_86 (by decide)) (fun _ => ?_)
          refine lv_aload_n hx hb dX12_count_135 rfl (lv_at hl 2 rfl) ?_
          refine va_get (D := (dC, dI)) (ci := 12) (v := .ref m28) (C := RX12) (T := TX12) (N := 57) hx hb hts in12 hown hK hP 1 rfl rfl 28 (by decide) (hts (.fieldLink RX12 73 "FactKeeperModel" "isOpen" "[Z") (by decide +kernel)) (fun _ h9 => h9) rfl dX12_count_136 ?_
          refine lv_iload_n hx hb dX12_count_139 rfl (lv_at hl 0 rfl) ?_
          refine va_zald hx hb hK hP 0 0 rfl rfl (by unfold vp_in; decide) dX12_count_140 ?_
          refine lv_topi (fun z_87 ez_87 => ?_)
          obtain rfl : z_87 = 0 := ez_87
          refine lv_if_eq (tgt := 147) hx hb dX12_count_141 (by decide) (fun _ => ?_) (fun c_88 => absurd c_88 (by decide))
          refine lv_iinc (v := 2) (lv' := [(3, .int 2), (2, .int 0), (0, .ref mo), (1, .int 7)]) hx hb dX12_count_147 hl (k := 0) rfl (by decide) (by decide) rfl (fun ls hl => ?_)
          refine lv_goto (tgt := 129) hx hb dX12_count_150 (by decide) ?_
          refine lv_iload_n hx hb dX12_count_129 rfl (lv_at hl 0 rfl) ?_
          refine lv_bipush (v := 10) hx hb dX12_count_130 (by decide) ?_
          refine lv_icmp_ge (tgt := 153) hx hb dX12_count_132 (by decide) (fun c_89 => absurd c_89 (by decide)) (fun _ => ?_)
          refine lv_aload_n hx hb dX12_count_135 rfl (lv_at hl 2 rfl) ?_
          refine va_get (D := (dC, dI)) (ci := 12) (v := .ref m28) (C := RX12) (T := TX12) (N := 57) hx hb hts in12 hown hK hP 1 rfl rfl 28 (by decide) (hts (.fieldLink RX12 73 "FactKeeperModel" "isOpen" "[Z") (by decide +kernel)) (fun _ h9 => h9) rfl dX12_count_136 ?_
          refine lv_iload_n hx hb dX12_count_139 rfl (lv_at hl 0 rfl) ?_
          refine va_zald hx hb hK hP 0 0 rfl rfl (by unfold vp_in; decide) dX12_count_140 ?_
          refine lv_topi (fun z_90 ez_90 => ?_)
          obtain rfl : z_90 = 0 := ez_90
          refine lv_if_eq (tgt := 147) hx hb dX12_count_141 (by decide) (fun _ => ?_) (fun c_91 => absurd c_91 (by decide))
          refine lv_iinc (v := 3) (lv' := [(3, .int 3), (2, .int 0), (0, .ref mo), (1, .int 7)]) hx hb dX12_count_147 hl (k := 0) rfl (by decide) (by decide) rfl (fun ls hl => ?_)
          refine lv_goto (tgt := 129) hx hb dX12_count_150 (by decide) ?_
          refine lv_iload_n hx hb dX12_count_129 rfl (lv_at hl 0 rfl) ?_
          refine lv_bipush (v := 10) hx hb dX12_count_130 (by decide) ?_
          refine lv_icmp_ge (tgt := 153) hx hb dX12_count_132 (by decide) (fun c_92 => absurd c_92 (by decide)) (fun _ => ?_)
          refine lv_aload_n hx hb dX12_count_135 rfl (lv_at hl 2 rfl) ?_
          refine va_get (D := (dC, dI)) (ci := 12) (v := .ref m28) (C := RX12) (T := TX12) (N := 57) hx hb hts in12 hown hK hP 1 rfl rfl 28 (by decide) (hts (.fieldLink RX12 73 "FactKeeperModel" "isOpen" "[Z") (by decide +kernel)) (fun _ h9 => h9) rfl dX12_count_136 ?_
          refine lv_iload_n hx hb dX12_count_139 rfl (lv_at hl 0 rfl) ?_
          refine va_zald hx hb hK hP 0 0 rfl rfl (by unfold vp_in; decide) dX12_count_140 ?_
          refine lv_topi (fun z_93 ez_93 => ?_)
          obtain rfl : z_93 = 0 := ez_93
          refine lv_if_eq (tgt := 147) hx hb dX12_count_141 (by decide) (fun _ => ?_) (fun c_94 => absurd c_94 (by decide))
          refine lv_iinc (v := 4) (lv' := [(3, .int 4), (2, .int 0), (0, .ref mo), (1, .int 7)]) hx hb dX12_count_147 hl (k := 0) rfl (by decide) (by decide) rfl (fun ls hl => ?_)
          refine lv_goto (tgt := 129) hx hb dX12_count_150 (by decide) ?_
          refine lv_iload_n hx hb dX12_count_129 rfl (lv_at hl 0 rfl) ?_
          refine lv_bipush (v := 10) hx hb dX12_count_130 (by decide) ?_
          refine lv_icmp_ge (tgt := 153) hx hb dX12_count_132 (by decide) (fun c_95 => absurd c_95 (by decide)) (fun _ => ?_)
          refine lv_aload_n hx hb dX12_count_135 rfl (lv_at hl 2 rfl) ?_
          refine va_get (D := (dC, dI)) (ci := 12) (v := .ref m28) (C := RX12) (T := TX12) (N := 57) hx hb hts in12 hown hK hP 1 rfl rfl 28 (by decide) (hts (.fieldLink RX12 73 "FactKeeperModel" "isOpen" "[Z") (by decide +kernel)) (fun _ h9 => h9) rfl dX12_count_136 ?_
          refine lv_iload_n hx hb dX12_count_139 rfl (lv_at hl 0 rfl) ?_
          refine va_zald hx hb hK hP 0 0 rfl rfl (by unfold vp_in; decide) dX12_count_140 ?_
          refine lv_topi (fun z_96 ez_96 => ?_)
          obtain rfl : z_96 = 0 := ez_96
          refine lv_if_eq (tgt := 147) hx hb dX12_count_141 (by decide) (fun _ => ?_) (fun c_97 => absurd c_97 (by decide))
          refine lv_iinc (v := 5) (lv' := [(3, .int 5), (2, .int 0), (0, .ref mo), (1, .int 7)]) hx hb dX12_count_147 hl (k := 0) rfl (by decide) (by decide) rfl (fun ls hl => ?_)
          refine lv_goto (tgt := 129) hx hb dX12_count_150 (by decide) ?_
          refine lv_iload_n hx hb dX12_count_129 rfl (lv_at hl 0 rfl) ?_
          refine lv_bipush (v := 10) hx hb dX12_count_130 (by decide) ?_
          refine lv_icmp_ge (tgt := 153) hx hb dX12_count_132 (by decide) (fun c_98 => absurd c_98 (by decide)) (fun _ => ?_)
          refine lv_aload_n hx hb dX12_count_135 rfl (lv_at hl 2 rfl) ?_
          refine va_get (D := (dC, dI)) (ci := 12) (v := .ref m28) (C := RX12) (T := TX12) (N := 57) hx hb hts in12 hown hK hP 1 rfl rfl 28 (by decide) (hts (.fieldLink RX12 73 "FactKeeperModel" "isOpen" "[Z") (by decide +kernel)) (fun _ h9 => h9) rfl dX12_count_136 ?_
          refine lv_iload_n hx hb dX12_count_139 rfl (lv_at hl 0 rfl) ?_
          refine va_zald hx hb hK hP 0 0 rfl rfl (by unfold vp_in; decide) dX12_count_140 ?_
          refine lv_topi (fun z_99 ez_99 => ?_)
          obtain rfl : z_99 = 0 := ez_99
          refine lv_if_eq (tgt := 147) hx hb dX12_count_141 (by decide) (fun _ => ?_) (fun c_100 => absurd c_100 (by decide))
          refine lv_iinc (v := 6) (lv' := [(3, .int 6), (2, .int 0), (0, .ref mo), (1, .int 7)]) hx hb dX12_count_147 hl (k := 0) rfl (by decide) (by decide) rfl (fun ls hl => ?_)
          refine lv_goto (tgt := 129) hx hb dX12_count_150 (by decide) ?_
          refine lv_iload_n hx hb dX12_count_129 rfl (lv_at hl 0 rfl) ?_
          refine lv_bipush (v := 10) hx hb dX12_count_130 (by decide) ?_
          refine lv_icmp_ge (tgt := 153) hx hb dX12_count_132 (by decide) (fun c_101 => absurd c_101 (by decide)) (fun _ => ?_)
          refine lv_aload_n hx hb dX12_count_135 rfl (lv_at hl 2 rfl) ?_
          refine va_get (D := (dC, dI)) (ci := 12) (v := .ref m28) (C := RX12) (T := TX12) (N := 57) hx hb hts in12 hown hK hP 1 rfl rfl 28 (by decide) (hts (.fieldLink RX12 73 "FactKeeperModel" "isOpen" "[Z") (by decide +kernel)) (fun _ h9 => h9) rfl dX12_count_136 ?_
          refine lv_iload_n hx hb dX12_count_139 rfl (lv_at hl 0 rfl) ?_
          refine va_zald hx hb hK hP 0 0 rfl rfl (by unfold vp_in; decide) dX12_count_140 ?_
          refine lv_topi (fun z_102 ez_102 => ?_)
          obtain rfl : z_102 = 0 := ez_102
          refine lv_if_eq (tgt := 147) hx hb dX12_count_141 (by decide) (fun _ => ?_) (fun c_103 => absurd c_103 (by decide))
          refine lv_iinc (v := 7) (lv' := [(3, .int 7), (2, .int 0), (0, .ref mo), (1, .int 7)]) hx hb dX12_count_147 hl (k := 0) rfl (by decide) (by decide) rfl (fun ls hl => ?_)
          refine lv_goto (tgt := 129) hx hb dX12_count_150 (by decide) ?_
          refine lv_iload_n hx hb dX12_count_129 rfl (lv_at hl 0 rfl) ?_
          refine lv_bipush (v := 10) hx hb dX12_count_130 (by decide) ?_
          refine lv_icmp_ge (tgt := 153) hx hb dX12_count_132 (by decide) (fun c_104 => absurd c_104 (by decide)) (fun _ => ?_)
          refine lv_aload_n hx hb dX12_count_135 rfl (lv_at hl 2 rfl) ?_
          refine va_get (D := (dC, dI)) (ci := 12) (v := .ref m28) (C := RX12) (T := TX12) (N := 57) hx hb hts in12 hown hK hP 1 rfl rfl 28 (by decide) (hts (.fieldLink RX12 73 "FactKeeperModel" "isOpen" "[Z") (by decide +kernel)) (fun _ h9 => h9) rfl dX12_count_136 ?_
          refine lv_iload_n hx hb dX12_count_139 rfl (lv_at hl 0 rfl) ?_
          refine va_zald hx hb hK hP 0 0 rfl rfl (by unfold vp_in; decide) dX12_count_140 ?_
          refine lv_topi (fun z_105 ez_105 => ?_)
          obtain rfl : z_105 = 0 := ez_105
          refine lv_if_eq (tgt := 147) hx hb dX12_count_141 (by decide) (fun _ => ?_) (fun c_106 => absurd c_106 (by decide))
          refine lv_iinc (v := 8) (lv' := [(3, .int 8), (2, .int 0), (0, .ref mo), (1, .int 7)]) hx hb dX12_count_147 hl (k := 0) rfl (by decide) (by decide) rfl (fun ls hl => ?_)
          refine lv_goto (tgt := 129) hx hb dX12_count_150 (by decide) ?_
          refine lv_iload_n hx hb dX12_count_129 rfl (lv_at hl 0 rfl) ?_
          refine lv_bipush (v := 10) hx hb dX12_count_130 (by decide) ?_
          refine lv_icmp_ge (tgt := 153) hx hb dX12_count_132 (by decide) (fun c_107 => absurd c_107 (by decide)) (fun _ => ?_)
          refine lv_aload_n hx hb dX12_count_135 rfl (lv_at hl 2 rfl) ?_
          refine va_get (D := (dC, dI)) (ci := 12) (v := .ref m28) (C := RX12) (T := TX12) (N := 57) hx hb hts in12 hown hK hP 1 rfl rfl 28 (by decide) (hts (.fieldLink RX12 73 "FactKeeperModel" "isOpen" "[Z") (by decide +kernel)) (fun _ h9 => h9) rfl dX12_count_136 ?_
          refine lv_iload_n hx hb dX12_count_139 rfl (lv_at hl 0 rfl) ?_
          refine va_zald hx hb hK hP 0 0 rfl rfl (by unfold vp_in; decide) dX12_count_140 ?_
          refine lv_topi (fun z_108 ez_108 => ?_)
          obtain rfl : z_108 = 0 := ez_108
          refine lv_if_eq (tgt := 147) hx hb dX12_count_141 (by decide) (fun _ => ?_) (fun c_109 => absurd c_109 (by decide))
          refine lv_iinc (v := 9) (lv' := [(3, .int 9), (2, .int 0), (0, .ref mo), (1, .int 7)]) hx hb dX12_count_147 hl (k := 0) rfl (by decide) (by decide) rfl (fun ls hl => ?_)
          refine lv_goto (tgt := 129) hx hb dX12_count_150 (by decide) ?_
          refine lv_iload_n hx hb dX12_count_129 rfl (lv_at hl 0 rfl) ?_
          refine lv_bipush (v := 10) hx hb dX12_count_130 (by decide) ?_
          refine lv_icmp_ge (tgt := 153) hx hb dX12_count_132 (by decide) (fun c_110 => absurd c_110 (by decide)) (fun _ => ?_)
          refine lv_aload_n hx hb dX12_count_135 rfl (lv_at hl 2 rfl) ?_
          refine va_get (D := (dC, dI)) (ci := 12) (v := .ref m28) (C := RX12) (T := TX12) (N := 57) hx hb hts in12 hown hK hP 1 rfl rfl 28 (by decide) (hts (.fieldLink RX12 73 "FactKeeperModel" "isOpen" "[Z") (by decide +kernel)) (fun _ h9 => h9) rfl dX12_count_136 ?_
          refine lv_iload_n hx hb dX12_count_139 rfl (lv_at hl 0 rfl) ?_
          refine va_zald hx hb hK hP 0 0 rfl rfl (by unfold vp_in; decide) dX12_count_140 ?_
          refine lv_topi (fun z_111 ez_111 => ?_)
          obtain rfl : z_111 = 0 := ez_111
          refine lv_if_eq (tgt := 147) hx hb dX12_count_141 (by decide) (fun _ => ?_) (fun c_112 => absurd c_112 (by decide))
          refine lv_iinc (v := 10) (lv' := [(3, .int 10), (2, .int 0), (0, .ref mo), (1, .int 7)]) hx hb dX12_count_147 hl (k := 0) rfl (by decide) (by decide) rfl (fun ls hl => ?_)
          refine lv_goto (tgt := 129) hx hb dX12_count_150 (by decide) ?_
          refine lv_iload_n hx hb dX12_count_129 rfl (lv_at hl 0 rfl) ?_
          refine lv_bipush (v := 10) hx hb dX12_count_130 (by decide) ?_
          refine lv_icmp_ge (tgt := 153) hx hb dX12_count_132 (by decide) (fun _ => ?_) (fun c_113 => absurd c_113 (by decide))
          refine lv_iload_n hx hb dX12_count_153 rfl (lv_at hl 1 rfl) ?_
          have hP9 := hP.sub (ws' := [(mo, .inr (12, [.int 0, .ref m1, .int 0, .ref m3, .ref m4, .ref m5, .ref m6, .ref m7, .ref m8, .ref m9, .int 0, .ref m11, .ref m12, .ref m13, .ref m14, .ref m15, .ref m16, .ref m17, .ref m18, .ref m19, .int 0, .int 0, .int 0, .int 0, .ref m24, .int 0, .ref m26, .int 0, .ref m28, .ref m29, .ref m30, .ref m31, .ref m32, .ref m33, .ref m34, .ref m35, .ref m36, .int 0, .int 0, .int 0, .int 0, .int 0, .int (-1), .int 0, .ref m44, .ref m45, .ref m46, .ref m47, .ref m48, .int 0, .ref m50, .ref m51, .ref m52, .ref m53, .ref m54, .int 0, .int 0]))]) [1] rfl
          have hD9 := hD.sub (ws' := [(mo, .inr (12, [.int 0, .ref m1, .int 0, .ref m3, .ref m4, .ref m5, .ref m6, .ref m7, .ref m8, .ref m9, .int 0, .ref m11, .ref m12, .ref m13, .ref m14, .ref m15, .ref m16, .ref m17, .ref m18, .ref m19, .int 0, .int 0, .int 0, .int 0, .ref m24, .int 0, .ref m26, .int 0, .ref m28, .ref m29, .ref m30, .ref m31, .ref m32, .ref m33, .ref m34, .ref m35, .ref m36, .int 0, .int 0, .int 0, .int 0, .int 0, .int (-1), .int 0, .ref m44, .ref m45, .ref m46, .ref m47, .ref m48, .int 0, .ref m50, .ref m51, .ref m52, .ref m53, .ref m54, .int 0, .int 0]))]) [1] (by decide) rfl
          have hK9 := hK.sub (tys' := []) [] rfl
          refine W.widen (k := 0) (n := 0) (Nat.le_of_ble_eq_true rfl) (Nat.le_of_ble_eq_true rfl) ?_
          exact (W.iret (v := 0) hx hb hr (fun t ht hW => ⟨⟨0, 0, rfl, Or.inr ⟨rfl, fun h => h.elim c_1 (fun q => q c_79), (by decide)⟩, by rw [ht]; exact hP9, va_K.moved hW.alike hK9, hD9⟩, hS.F ht⟩) hS.2.2 dX12_count_154)
        · skip
          refine lv_tableIn (off := 116) (tgt := 155) hx hb dX12_count_39 (by decide) (by decide) (by decide) (by decide) ?_
          refine lv_aload_n hx hb dX12_count_155 rfl (lv_at hl 1 rfl) ?_
          refine va_get (D := (dC, dI)) (ci := 12) (v := .int 0) (C := RX12) (T := TX12) (N := 57) hx hb hts in12 hown hK hP 1 rfl rfl 27 (by decide) (hts (.fieldLink RX12 193 "FactKeeperModel" "marks" "I") (by decide +kernel)) (fun _ h9 => h9) rfl dX12_count_156 ?_
          have hP9 := hP.sub (ws' := [(mo, .inr (12, [.int 0, .ref m1, .int 0, .ref m3, .ref m4, .ref m5, .ref m6, .ref m7, .ref m8, .ref m9, .int 0, .ref m11, .ref m12, .ref m13, .ref m14, .ref m15, .ref m16, .ref m17, .ref m18, .ref m19, .int 0, .int 0, .int 0, .int 0, .ref m24, .int 0, .ref m26, .int 0, .ref m28, .ref m29, .ref m30, .ref m31, .ref m32, .ref m33, .ref m34, .ref m35, .ref m36, .int 0, .int 0, .int 0, .int 0, .int 0, .int (-1), .int 0, .ref m44, .ref m45, .ref m46, .ref m47, .ref m48, .int 0, .ref m50, .ref m51, .ref m52, .ref m53, .ref m54, .int 0, .int 0]))]) [1] rfl
          have hD9 := hD.sub (ws' := [(mo, .inr (12, [.int 0, .ref m1, .int 0, .ref m3, .ref m4, .ref m5, .ref m6, .ref m7, .ref m8, .ref m9, .int 0, .ref m11, .ref m12, .ref m13, .ref m14, .ref m15, .ref m16, .ref m17, .ref m18, .ref m19, .int 0, .int 0, .int 0, .int 0, .ref m24, .int 0, .ref m26, .int 0, .ref m28, .ref m29, .ref m30, .ref m31, .ref m32, .ref m33, .ref m34, .ref m35, .ref m36, .int 0, .int 0, .int 0, .int 0, .int 0, .int (-1), .int 0, .ref m44, .ref m45, .ref m46, .ref m47, .ref m48, .int 0, .ref m50, .ref m51, .ref m52, .ref m53, .ref m54, .int 0, .int 0]))]) [1] (by decide) rfl
          have hK9 := hK.sub (tys' := []) [] rfl
          refine W.widen (k := 0) (n := 0) (Nat.le_of_ble_eq_true rfl) (Nat.le_of_ble_eq_true rfl) ?_
          exact (W.iret (v := 0) hx hb hr (fun t ht hW => ⟨⟨0, 0, rfl, Or.inr ⟨rfl, fun h => h.elim c_1 (fun q => q c_79), (by decide)⟩, by rw [ht]; exact hP9, va_K.moved hW.alike hK9, hD9⟩, hS.F ht⟩) hS.2.2 dX12_count_159)
        · skip
          refine lv_tableIn (off := 121) (tgt := 160) hx hb dX12_count_39 (by decide) (by decide) (by decide) (by decide) ?_
          refine lv_iconst (v := 0) hx hb dX12_count_160 (by decide) ?_
          refine lv_istore_n (lv' := [(3, .int 0), (2, .int 0), (0, .ref mo), (1, .int 9)]) hx hb dX12_count_161 rfl hl (by decide) rfl (fun ls hl => ?_)
          refine lv_iload_n hx hb dX12_count_162 rfl (lv_at hl 0 rfl) ?_
          refine lv_bipush (v := 8) hx hb dX12_count_163 (by decide) ?_
          refine lv_icmp_ge (tgt := 185) hx hb dX12_count_165 (by decide) (fun c_114 => absurd c_114 (by decide)) (fun _ => ?_)
          refine lv_iload_n hx hb dX12_count_168 rfl (lv_at hl 1 rfl) ?_
          refine lv_aload_n hx hb dX12_count_169 rfl (lv_at hl 2 rfl) ?_
          refine va_get (D := (dC, dI)) (ci := 12) (v := .int 0) (C := RX12) (T := TX12) (N := 57) hx hb hts in12 hown hK hP 1 rfl rfl 56 (by decide) (hts (.fieldLink RX12 316 "FactKeeperModel" "toldKnown" "I") (by decide +kernel)) (fun _ h9 => h9) rfl dX12_count_170 ?_
          refine lv_iload_n hx hb dX12_count_173 rfl (lv_at hl 0 rfl) ?_
          refine lv_ishr hx hb dX12_count_174 ?_
          refine lv_topi (fun z_115 ez_115 => ?_)
          obtain rfl : z_115 = 0 := ez_115.trans (by decide)
          refine lv_iconst (v := 1) hx hb dX12_count_175 (by decide) ?_
          refine lv_iand hx hb dX12_count_176 ?_
          refine lv_topi (fun z_116 ez_116 => ?_)
          obtain rfl : z_116 = 0 := ez_116.trans (by decide)
          refine lv_iadd hx hb dX12_count_177 ?_
          refine lv_topi (fun z_117 ez_117 => ?_)
          obtain rfl : z_117 = 0 := ez_117.trans (by decide)
          refine lv_istore_n (lv' := [(2, .int 0), (3, .int 0), (0, .ref mo), (1, .int 9)]) hx hb dX12_count_178 rfl hl (by decide) rfl (fun ls hl => ?_)
          refine lv_iinc (v := 1) (lv' := [(3, .int 1), (2, .int 0), (0, .ref mo), (1, .int 9)]) hx hb dX12_count_179 hl (k := 1) rfl (by decide) (by decide) rfl (fun ls hl => ?_)
          refine lv_goto (tgt := 162) hx hb dX12_count_182 (by decide) ?_
          refine lv_iload_n hx hb dX12_count_162 rfl (lv_at hl 0 rfl) ?_
          refine lv_bipush (v := 8) hx hb dX12_count_163 (by decide) ?_
          refine lv_icmp_ge (tgt := 185) hx hb dX12_count_165 (by decide) (fun c_118 => absurd c_118 (by decide)) (fun _ => ?_)
          refine lv_iload_n hx hb dX12_count_168 rfl (lv_at hl 1 rfl) ?_
          refine lv_aload_n hx hb dX12_count_169 rfl (lv_at hl 2 rfl) ?_
          refine va_get (D := (dC, dI)) (ci := 12) (v := .int 0) (C := RX12) (T := TX12) (N := 57) hx hb hts in12 hown hK hP 1 rfl rfl 56 (by decide) (hts (.fieldLink RX12 316 "FactKeeperModel" "toldKnown" "I") (by decide +kernel)) (fun _ h9 => h9) rfl dX12_count_170 ?_
          refine lv_iload_n hx hb dX12_count_173 rfl (lv_at hl 0 rfl) ?_
          refine lv_ishr hx hb dX12_count_174 ?_
          refine lv_topi (fun z_119 ez_119 => ?_)
          obtain rfl : z_119 = 0 := ez_119.trans (by decide)
          refine lv_iconst (v := 1) hx hb dX12_count_175 (by decide) ?_
          refine lv_iand hx hb dX12_count_176 ?_
          refine lv_topi (fun z_120 ez_120 => ?_)
          obtain rfl : z_120 = 0 := ez_120.trans (by decide)
          refine lv_iadd hx hb dX12_count_177 ?_
          refine lv_topi (fun z_121 ez_121 => ?_)
          obtain rfl : z_121 = 0 := ez_121.trans (by decide)
          refine lv_istore_n (lv' := [(2, .int 0), (3, .int 1), (0, .ref mo), (1, .int 9)]) hx hb dX12_count_178 rfl hl (by decide) rfl (fun ls hl => ?_)
          refine lv_iinc (v := 2) (lv' := [(3, .int 2), (2, .int 0), (0, .ref mo), (1, .int 9)]) hx hb dX12_count_179 hl (k := 1) rfl (by decide) (by decide) rfl (fun ls hl => ?_)
          refine lv_goto (tgt := 162) hx hb dX12_count_182 (by decide) ?_
          refine lv_iload_n hx hb dX12_count_162 rfl (lv_at hl 0 rfl) ?_
          refine lv_bipush (v := 8) hx hb dX12_count_163 (by decide) ?_
          refine lv_icmp_ge (tgt := 185) hx hb dX12_count_165 (by decide) (fun c_122 => absurd c_122 (by decide)) (fun _ => ?_)
          refine lv_iload_n hx hb dX12_count_168 rfl (lv_at hl 1 rfl) ?_
          refine lv_aload_n hx hb dX12_count_169 rfl (lv_at hl 2 rfl) ?_
          refine va_get (D := (dC, dI)) (ci := 12) (v := .int 0) (C := RX12) (T := TX12) (N := 57) hx hb hts in12 hown hK hP 1 rfl rfl 56 (by decide) (hts (.fieldLink RX12 316 "FactKeeperModel" "toldKnown" "I") (by decide +kernel)) (fun _ h9 => h9) rfl dX12_count_170 ?_
          refine lv_iload_n hx hb dX12_count_173 rfl (lv_at hl 0 rfl) ?_
          refine lv_ishr hx hb dX12_count_174 ?_
          refine lv_topi (fun z_123 ez_123 => ?_)
          obtain rfl : z_123 = 0 := ez_123.trans (by decide)
          refine lv_iconst (v := 1) hx hb dX12_count_175 (by decide) ?_
          refine lv_iand hx hb dX12_count_176 ?_
          refine lv_topi (fun z_124 ez_124 => ?_)
          obtain rfl : z_124 = 0 := ez_124.trans (by decide)
          refine lv_iadd hx hb dX12_count_177 ?_
          refine lv_topi (fun z_125 ez_125 => ?_)
          obtain rfl : z_125 = 0 := ez_125.trans (by decide)
          refine lv_istore_n (lv' := [(2, .int 0), (3, .int 2), (0, .ref mo), (1, .int 9)]) hx hb dX12_count_178 rfl hl (by decide) rfl (fun ls hl => ?_)
          refine lv_iinc (v := 3) (lv' := [(3, .int 3), (2, .int 0), (0, .ref mo), (1, .int 9)]) hx hb dX12_count_179 hl (k := 1) rfl (by decide) (by decide) rfl (fun ls hl => ?_)
          refine lv_goto (tgt := 162) hx hb dX12_count_182 (by decide) ?_
          refine lv_iload_n hx hb dX12_count_162 rfl (lv_at hl 0 rfl) ?_
          refine lv_bipush (v := 8) hx hb dX12_count_163 (by decide) ?_
          refine lv_icmp_ge (tgt := 185) hx hb dX12_count_165 (by decide) (fun c_126 => absurd c_126 (by decide)) (fun _ => ?_)
          refine lv_iload_n hx hb dX12_count_168 rfl (lv_at hl 1 rfl) ?_
          refine lv_aload_n hx hb dX12_count_169 rfl (lv_at hl 2 rfl) ?_
          refine va_get (D := (dC, dI)) (ci := 12) (v := .int 0) (C := RX12) (T := TX12) (N := 57) hx hb hts in12 hown hK hP 1 rfl rfl 56 (by decide) (hts (.fieldLink RX12 316 "FactKeeperModel" "toldKnown" "I") (by decide +kernel)) (fun _ h9 => h9) rfl dX12_count_170 ?_
          refine lv_iload_n hx hb dX12_count_173 rfl (lv_at hl 0 rfl) ?_
          refine lv_ishr hx hb dX12_count_174 ?_
          refine lv_topi (fun z_127 ez_127 => ?_)
          obtain rfl : z_127 = 0 := ez_127.trans (by decide)
          refine lv_iconst (v := 1) hx hb dX12_count_175 (by decide) ?_
          refine lv_iand hx hb dX12_count_176 ?_
          refine lv_topi (fun z_128 ez_128 => ?_)
          obtain rfl : z_128 = 0 := ez_128.trans (by decide)
          refine lv_iadd hx hb dX12_count_177 ?_
          refine lv_topi (fun z_129 ez_129 => ?_)
          obtain rfl : z_129 = 0 := ez_129.trans (by decide)
          refine lv_istore_n (lv' := [(2, .int 0), (3, .int 3), (0, .ref mo), (1, .int 9)]) hx hb dX12_count_178 rfl hl (by decide) rfl (fun ls hl => ?_)
          refine lv_iinc (v := 4) (lv' := [(3, .int 4), (2, .int 0), (0, .ref mo), (1, .int 9)]) hx hb dX12_count_179 hl (k := 1) rfl (by decide) (by decide) rfl (fun ls hl => ?_)
          refine lv_goto (tgt := 162) hx hb dX12_count_182 (by decide) ?_
          refine lv_iload_n hx hb dX12_count_162 rfl (lv_at hl 0 rfl) ?_
          refine lv_bipush (v := 8) hx hb dX12_count_163 (by decide) ?_
          refine lv_icmp_ge (tgt := 185) hx hb dX12_count_165 (by decide) (fun c_130 => absurd c_130 (by decide)) (fun _ => ?_)
          refine lv_iload_n hx hb dX12_count_168 rfl (lv_at hl 1 rfl) ?_
          refine lv_aload_n hx hb dX12_count_169 rfl (lv_at hl 2 rfl) ?_
          refine va_get (D := (dC, dI)) (ci := 12) (v := .int 0) (C := RX12) (T := TX12) (N := 57) hx hb hts in12 hown hK hP 1 rfl rfl 56 (by decide) (hts (.fieldLink RX12 316 "FactKeeperModel" "toldKnown" "I") (by decide +kernel)) (fun _ h9 => h9) rfl dX12_count_170 ?_
          refine lv_iload_n hx hb dX12_count_173 rfl (lv_at hl 0 rfl) ?_
          refine lv_ishr hx hb dX12_count_174 ?_
          refine lv_topi (fun z_131 ez_131 => ?_)
          obtain rfl : z_131 = 0 := ez_131.trans (by decide)
          refine lv_iconst (v := 1) hx hb dX12_count_175 (by decide) ?_
          refine lv_iand hx hb dX12_count_176 ?_
          refine lv_topi (fun z_132 ez_132 => ?_)
          obtain rfl : z_132 = 0 := ez_132.trans (by decide)
          refine lv_iadd hx hb dX12_count_177 ?_
          refine lv_topi (fun z_133 ez_133 => ?_)
          obtain rfl : z_133 = 0 := ez_133.trans (by decide)
          refine lv_istore_n (lv' := [(2, .int 0), (3, .int 4), (0, .ref mo), (1, .int 9)]) hx hb dX12_count_178 rfl hl (by decide) rfl (fun ls hl => ?_)
          refine lv_iinc (v := 5) (lv' := [(3, .int 5), (2, .int 0), (0, .ref mo), (1, .int 9)]) hx hb dX12_count_179 hl (k := 1) rfl (by decide) (by decide) rfl (fun ls hl => ?_)
          refine lv_goto (tgt := 162) hx hb dX12_count_182 (by decide) ?_
          refine lv_iload_n hx hb dX12_count_162 rfl (lv_at hl 0 rfl) ?_
          refine lv_bipush (v := 8) hx hb dX12_count_163 (by decide) ?_
          refine lv_icmp_ge (tgt := 185) hx hb dX12_count_165 (by decide) (fun c_134 => absurd c_134 (by decide)) (fun _ => ?_)
          refine lv_iload_n hx hb dX12_count_168 rfl (lv_at hl 1 rfl) ?_
          refine lv_aload_n hx hb dX12_count_169 rfl (lv_at hl 2 rfl) ?_
          refine va_get (D := (dC, dI)) (ci := 12) (v := .int 0) (C := RX12) (T := TX12) (N := 57) hx hb hts in12 hown hK hP 1 rfl rfl 56 (by decide) (hts (.fieldLink RX12 316 "FactKeeperModel" "toldKnown" "I") (by decide +kernel)) (fun _ h9 => h9) rfl dX12_count_170 ?_
          refine lv_iload_n hx hb dX12_count_173 rfl (lv_at hl 0 rfl) ?_
          refine lv_ishr hx hb dX12_count_174 ?_
          refine lv_topi (fun z_135 ez_135 => ?_)
          obtain rfl : z_135 = 0 := ez_135.trans (by decide)
          refine lv_iconst (v := 1) hx hb dX12_count_175 (by decide) ?_
          refine lv_iand hx hb dX12_count_176 ?_
          refine lv_topi (fun z_136 ez_136 => ?_)
          obtain rfl : z_136 = 0 := ez_136.trans (by decide)
          refine lv_iadd hx hb dX12_count_177 ?_
          refine lv_topi (fun z_137 ez_137 => ?_)
          obtain rfl : z_137 = 0 := ez_137.trans (by decide)
          refine lv_istore_n (lv' := [(2, .int 0), (3, .int 5), (0, .ref mo), (1, .int 9)]) hx hb dX12_count_178 rfl hl (by decide) rfl (fun ls hl => ?_)
          refine lv_iinc (v := 6) (lv' := [(3, .int 6), (2, .int 0), (0, .ref mo), (1, .int 9)]) hx hb dX12_count_179 hl (k := 1) rfl (by decide) (by decide) rfl (fun ls hl => ?_)
          refine lv_goto (tgt := 162) hx hb dX12_count_182 (by decide) ?_
          refine lv_iload_n hx hb dX12_count_162 rfl (lv_at hl 0 rfl) ?_
          refine lv_bipush (v := 8) hx hb dX12_count_163 (by decide) ?_
          refine lv_icmp_ge (tgt := 185) hx hb dX12_count_165 (by decide) (fun c_138 => absurd c_138 (by decide)) (fun _ => ?_)
          refine lv_iload_n hx hb dX12_count_168 rfl (lv_at hl 1 rfl) ?_
          refine lv_aload_n hx hb dX12_count_169 rfl (lv_at hl 2 rfl) ?_
          refine va_get (D := (dC, dI)) (ci := 12) (v := .int 0) (C := RX12) (T := TX12) (N := 57) hx hb hts in12 hown hK hP 1 rfl rfl 56 (by decide) (hts (.fieldLink RX12 316 "FactKeeperModel" "toldKnown" "I") (by decide +kernel)) (fun _ h9 => h9) rfl dX12_count_170 ?_
          refine lv_iload_n hx hb dX12_count_173 rfl (lv_at hl 0 rfl) ?_
          refine lv_ishr hx hb dX12_count_174 ?_
          refine lv_topi (fun z_139 ez_139 => ?_)
          obtain rfl : z_139 = 0 := ez_139.trans (by decide)
          refine lv_iconst (v := 1) hx hb dX12_count_175 (by decide) ?_
          refine lv_iand hx hb dX12_count_176 ?_
          refine lv_topi (fun z_140 ez_140 => ?_)
          obtain rfl : z_140 = 0 := ez_140.trans (by decide)
          refine lv_iadd hx hb dX12_count_177 ?_
          refine lv_topi (fun z_141 ez_141 => ?_)
          obtain rfl : z_141 = 0 := ez_141.trans (by decide)
          refine lv_istore_n (lv' := [(2, .int 0), (3, .int 6), (0, .ref mo), (1, .int 9)]) hx hb dX12_count_178 rfl hl (by decide) rfl (fun ls hl => ?_)
          refine lv_iinc (v := 7) (lv' := [(3, .int 7), (2, .int 0), (0, .ref mo), (1, .int 9)]) hx hb dX12_count_179 hl (k := 1) rfl (by decide) (by decide) rfl (fun ls hl => ?_)
          refine lv_goto (tgt := 162) hx hb dX12_count_182 (by decide) ?_
          refine lv_iload_n hx hb dX12_count_162 rfl (lv_at hl 0 rfl) ?_
          refine lv_bipush (v := 8) hx hb dX12_count_163 (by decide) ?_
          refine lv_icmp_ge (tgt := 185) hx hb dX12_count_165 (by decide) (fun c_142 => absurd c_142 (by decide)) (fun _ => ?_)
          refine lv_iload_n hx hb dX12_count_168 rfl (lv_at hl 1 rfl) ?_
          refine lv_aload_n hx hb dX12_count_169 rfl (lv_at hl 2 rfl) ?_
          refine va_get (D := (dC, dI)) (ci := 12) (v := .int 0) (C := RX12) (T := TX12) (N := 57) hx hb hts in12 hown hK hP 1 rfl rfl 56 (by decide) (hts (.fieldLink RX12 316 "FactKeeperModel" "toldKnown" "I") (by decide +kernel)) (fun _ h9 => h9) rfl dX12_count_170 ?_
          refine lv_iload_n hx hb dX12_count_173 rfl (lv_at hl 0 rfl) ?_
          refine lv_ishr hx hb dX12_count_174 ?_
          refine lv_topi (fun z_143 ez_143 => ?_)
          obtain rfl : z_143 = 0 := ez_143.trans (by decide)
          refine lv_iconst (v := 1) hx hb dX12_count_175 (by decide) ?_
          refine lv_iand hx hb dX12_count_176 ?_
          refine lv_topi (fun z_144 ez_144 => ?_)
          obtain rfl : z_144 = 0 := ez_144.trans (by decide)
          refine lv_iadd hx hb dX12_count_177 ?_
          refine lv_topi (fun z_145 ez_145 => ?_)
          obtain rfl : z_145 = 0 := ez_145.trans (by decide)
          refine lv_istore_n (lv' := [(2, .int 0), (3, .int 7), (0, .ref mo), (1, .int 9)]) hx hb dX12_count_178 rfl hl (by decide) rfl (fun ls hl => ?_)
          refine lv_iinc (v := 8) (lv' := [(3, .int 8), (2, .int 0), (0, .ref mo), (1, .int 9)]) hx hb dX12_count_179 hl (k := 1) rfl (by decide) (by decide) rfl (fun ls hl => ?_)
          refine lv_goto (tgt := 162) hx hb dX12_count_182 (by decide) ?_
          refine lv_iload_n hx hb dX12_count_162 rfl (lv_at hl 0 rfl) ?_
          refine lv_bipush (v := 8) hx hb dX12_count_163 (by decide) ?_
          refine lv_icmp_ge (tgt := 185) hx hb dX12_count_165 (by decide) (fun _ => ?_) (fun c_146 => absurd c_146 (by decide))
          refine lv_iload_n hx hb dX12_count_185 rfl (lv_at hl 1 rfl) ?_
          have hP9 := hP.sub (ws' := [(mo, .inr (12, [.int 0, .ref m1, .int 0, .ref m3, .ref m4, .ref m5, .ref m6, .ref m7, .ref m8, .ref m9, .int 0, .ref m11, .ref m12, .ref m13, .ref m14, .ref m15, .ref m16, .ref m17, .ref m18, .ref m19, .int 0, .int 0, .int 0, .int 0, .ref m24, .int 0, .ref m26, .int 0, .ref m28, .ref m29, .ref m30, .ref m31, .ref m32, .ref m33, .ref m34, .ref m35, .ref m36, .int 0, .int 0, .int 0, .int 0, .int 0, .int (-1), .int 0, .ref m44, .ref m45, .ref m46, .ref m47, .ref m48, .int 0, .ref m50, .ref m51, .ref m52, .ref m53, .ref m54, .int 0, .int 0]))]) [1] rfl
          have hD9 := hD.sub (ws' := [(mo, .inr (12, [.int 0, .ref m1, .int 0, .ref m3, .ref m4, .ref m5, .ref m6, .ref m7, .ref m8, .ref m9, .int 0, .ref m11, .ref m12, .ref m13, .ref m14, .ref m15, .ref m16, .ref m17, .ref m18, .ref m19, .int 0, .int 0, .int 0, .int 0, .ref m24, .int 0, .ref m26, .int 0, .ref m28, .ref m29, .ref m30, .ref m31, .ref m32, .ref m33, .ref m34, .ref m35, .ref m36, .int 0, .int 0, .int 0, .int 0, .int 0, .int (-1), .int 0, .ref m44, .ref m45, .ref m46, .ref m47, .ref m48, .int 0, .ref m50, .ref m51, .ref m52, .ref m53, .ref m54, .int 0, .int 0]))]) [1] (by decide) rfl
          have hK9 := hK.sub (tys' := []) [] rfl
          refine W.widen (k := 0) (n := 0) (Nat.le_of_ble_eq_true rfl) (Nat.le_of_ble_eq_true rfl) ?_
          exact (W.iret (v := 0) hx hb hr (fun t ht hW => ⟨⟨0, 0, rfl, Or.inr ⟨rfl, fun h => h.elim c_1 (fun q => q c_79), (by decide)⟩, by rw [ht]; exact hP9, va_K.moved hW.alike hK9, hD9⟩, hS.F ht⟩) hS.2.2 dX12_count_186)
        · skip
          refine lv_tableOut (tgt := 187) hx hb dX12_count_39 hsw (by decide) ?_
          refine lv_aload_n hx hb dX12_count_187 rfl (lv_at hl 1 rfl) ?_
          refine lv_iload_n hx hb dX12_count_188 rfl (lv_at hl 2 rfl) ?_
          refine lv_bipush (v := 10) hx hb dX12_count_189 (by decide) ?_
          refine lv_isub hx hb dX12_count_191 ?_
          refine lv_topi (fun z_147 ez_147 => ?_)
          refine ct_i (wr := [(m28, .inl (k28, 10, .inl (fun _ => 0)))]) (tyr := [(k28, .boolean)]) (va_runV (As := [.int z_147]) (rest := []) ⟨hx, hb, hml, hown, hts⟩ (m_isTable l hl0 dC dI mo m1 m3 m4 m5 m6 m7 m8 m9 m11 m12 m13 m14 m15 m16 m17 m18 m19 m24 m26 m28 m29 m30 m31 m32 m33 m34 m35 m36 m44 m45 m46 m47 m48 m50 m51 m52 m53 m54 z_147 H.size ) (cwV 1 hts gX12_count_X12_isTable rfl rfl rfl (by decide +kernel) ⟨Nat.le_of_ble_eq_true rfl, Nat.le_of_ble_eq_true rfl⟩) (ct_preV (ci := 12) (q0 := 1) hP hD hK hS hA hZ rfl rfl [1] [] rfl (by decide) rfl) rfl rfl hl.1 rfl (lv_room (Nat.le_of_ble_eq_true rfl)) dX12_count_192 ⟨Nat.le_of_ble_eq_true rfl, Nat.le_of_ble_eq_true rfl⟩) hP hD hK hS hA [1] [0] [0] rfl rfl (by decide) (by decide) rfl (fun r_148 u H locs w_149 hP hD hK hS => ?_)
          try dsimp only at w_149
          have hP : va_P (dC, dI) vwCl [(m28, .inl (k28, 10, .inl (fun _ => 0))), (mo, .inr (12, [.int 0, .ref m1, .int 0, .ref m3, .ref m4, .ref m5, .ref m6, .ref m7, .ref m8, .ref m9, .int 0, .ref m11, .ref m12, .ref m13, .ref m14, .ref m15, .ref m16, .ref m17, .ref m18, .ref m19, .int 0, .int 0, .int 0, .int 0, .ref m24, .int 0, .ref m26, .int 0, .ref m28, .ref m29, .ref m30, .ref m31, .ref m32, .ref m33, .ref m34, .ref m35, .ref m36, .int 0, .int 0, .int 0, .int 0, .int 0, .int (-1), .int 0, .ref m44, .ref m45, .ref m46, .ref m47, .ref m48, .int 0, .ref m50, .ref m51, .ref m52, .ref m53, .ref m54, .int 0, .int 0]))] H := hP
          have hD : va_D A [(m28, .inl (k28, 10, .inl (fun _ => 0))), (mo, .inr (12, [.int 0, .ref m1, .int 0, .ref m3, .ref m4, .ref m5, .ref m6, .ref m7, .ref m8, .ref m9, .int 0, .ref m11, .ref m12, .ref m13, .ref m14, .ref m15, .ref m16, .ref m17, .ref m18, .ref m19, .int 0, .int 0, .int 0, .int 0, .ref m24, .int 0, .ref m26, .int 0, .ref m28, .ref m29, .ref m30, .ref m31, .ref m32, .ref m33, .ref m34, .ref m35, .ref m36, .int 0, .int 0, .int 0, .int 0, .int 0, .int (-1), .int 0, .ref m44, .ref m45, .ref m46, .ref m47, .ref m48, .int 0, .ref m50, .ref m51, .ref m52, .ref m53, .ref m54, .int 0, .int 0]))] := hD
          have hK : va_K (dC, dI) vwCl [(k28, .boolean)] s := hK
          obtain rfl : r_148 = 0 := w_149
          refine lv_if_ne (tgt := 200) hx hb dX12_count_195 (by decide) (fun c_150 => absurd c_150 (by decide)) (fun _ => ?_)
          refine lv_iconst (v := (-1)) hx hb dX12_count_198 (by decide) ?_
          have hP9 := hP.sub (ws' := [(mo, .inr (12, [.int 0, .ref m1, .int 0, .ref m3, .ref m4, .ref m5, .ref m6, .ref m7, .ref m8, .ref m9, .int 0, .ref m11, .ref m12, .ref m13, .ref m14, .ref m15, .ref m16, .ref m17, .ref m18, .ref m19, .int 0, .int 0, .int 0, .int 0, .ref m24, .int 0, .ref m26, .int 0, .ref m28, .ref m29, .ref m30, .ref m31, .ref m32, .ref m33, .ref m34, .ref m35, .ref m36, .int 0, .int 0, .int 0, .int 0, .int 0, .int (-1), .int 0, .ref m44, .ref m45, .ref m46, .ref m47, .ref m48, .int 0, .ref m50, .ref m51, .ref m52, .ref m53, .ref m54, .int 0, .int 0]))]) [1] rfl
          have hD9 := hD.sub (ws' := [(mo, .inr (12, [.int 0, .ref m1, .int 0, .ref m3, .ref m4, .ref m5, .ref m6, .ref m7, .ref m8, .ref m9, .int 0, .ref m11, .ref m12, .ref m13, .ref m14, .ref m15, .ref m16, .ref m17, .ref m18, .ref m19, .int 0, .int 0, .int 0, .int 0, .ref m24, .int 0, .ref m26, .int 0, .ref m28, .ref m29, .ref m30, .ref m31, .ref m32, .ref m33, .ref m34, .ref m35, .ref m36, .int 0, .int 0, .int 0, .int 0, .int 0, .int (-1), .int 0, .ref m44, .ref m45, .ref m46, .ref m47, .ref m48, .int 0, .ref m50, .ref m51, .ref m52, .ref m53, .ref m54, .int 0, .int 0]))]) [1] (by decide) rfl
          have hK9 := hK.sub (tys' := []) [] rfl
          refine W.widen (k := 0) (n := 0) (Nat.le_of_ble_eq_true rfl) (Nat.le_of_ble_eq_true rfl) ?_
          exact (W.iret (v := (-1)) hx hb hr (fun t ht hW => ⟨⟨(-1), 0, rfl, Or.inr ⟨rfl, fun h => h.elim c_1 (fun q => q c_79), (sp_cnt_hi c_1 hsw)⟩, by rw [ht]; exact hP9, va_K.moved hW.alike hK9, hD9⟩, hS.F ht⟩) hS.2.2 dX12_count_199)
      · skip
        refine lv_iconst (v := 1) hx hb dX12_count_23 (by decide) ?_
        refine lv_goto (tgt := 28) hx hb dX12_count_24 (by decide) ?_
        refine ct_i (wr := [(m28, .inl (k28, 10, .inl (fun _ => 0)))]) (tyr := [(k28, .boolean)]) (va_runV (As := [.int 1]) (rest := []) ⟨hx, hb, hml, hown, hts⟩ (c_fails1 l hl0 dC dI mo m1 m3 m4 m5 m6 m7 m8 m9 m11 m12 m13 m14 m15 m16 m17 m18 m19 m24 m26 m28 m29 m30 m31 m32 m33 m34 m35 m36 m44 m45 m46 m47 m48 m50 m51 m52 m53 m54 0 0 0 (-1) 0 0 s.heap.size ) (cwV 1 hts gX12_count_X12_fails rfl rfl rfl (by decide +kernel) ⟨Nat.le_of_ble_eq_true rfl, Nat.le_of_ble_eq_true rfl⟩) (ct_preV (ci := 12) (q0 := 0) hP hD hK hS hA hZ rfl rfl [0] [] rfl (by decide) rfl) rfl rfl hl.1 rfl (lv_room (Nat.le_of_ble_eq_true rfl)) dX12_count_28 ⟨Nat.le_of_ble_eq_true rfl, Nat.le_of_ble_eq_true rfl⟩) hP hD hK hS hA [0] [1] [0] rfl rfl (by decide) (by decide) rfl (fun r_151 u H locs w_152 hP hD hK hS => ?_)
        try dsimp only at w_152
        have hP : va_P (dC, dI) vwCl [(m28, .inl (k28, 10, .inl (fun _ => 0))), (mo, .inr (12, [.int 1, .ref m1, .int 0, .ref m3, .ref m4, .ref m5, .ref m6, .ref m7, .ref m8, .ref m9, .int 0, .ref m11, .ref m12, .ref m13, .ref m14, .ref m15, .ref m16, .ref m17, .ref m18, .ref m19, .int 0, .int 0, .int 0, .int 0, .ref m24, .int 0, .ref m26, .int 0, .ref m28, .ref m29, .ref m30, .ref m31, .ref m32, .ref m33, .ref m34, .ref m35, .ref m36, .int 0, .int 0, .int 0, .int 0, .int 0, .int (-1), .int 0, .ref m44, .ref m45, .ref m46, .ref m47, .ref m48, .int 0, .ref m50, .ref m51, .ref m52, .ref m53, .ref m54, .int 0, .int 0]))] H := hP
        have hD : va_D A [(m28, .inl (k28, 10, .inl (fun _ => 0))), (mo, .inr (12, [.int 1, .ref m1, .int 0, .ref m3, .ref m4, .ref m5, .ref m6, .ref m7, .ref m8, .ref m9, .int 0, .ref m11, .ref m12, .ref m13, .ref m14, .ref m15, .ref m16, .ref m17, .ref m18, .ref m19, .int 0, .int 0, .int 0, .int 0, .ref m24, .int 0, .ref m26, .int 0, .ref m28, .ref m29, .ref m30, .ref m31, .ref m32, .ref m33, .ref m34, .ref m35, .ref m36, .int 0, .int 0, .int 0, .int 0, .int 0, .int (-1), .int 0, .ref m44, .ref m45, .ref m46, .ref m47, .ref m48, .int 0, .ref m50, .ref m51, .ref m52, .ref m53, .ref m54, .int 0, .int 0]))] := hD
        have hK : va_K (dC, dI) vwCl [(k28, .boolean)] s := hK
        obtain rfl : r_151 = 1 := w_152
        refine lv_if_eq (tgt := 36) hx hb dX12_count_31 (by decide) (fun c_153 => absurd c_153 (by decide)) (fun _ => ?_)
        refine lv_iconst (v := 0) hx hb dX12_count_34 (by decide) ?_
        have hP9 := hP.sub (ws' := [(mo, .inr (12, [.int 1, .ref m1, .int 0, .ref m3, .ref m4, .ref m5, .ref m6, .ref m7, .ref m8, .ref m9, .int 0, .ref m11, .ref m12, .ref m13, .ref m14, .ref m15, .ref m16, .ref m17, .ref m18, .ref m19, .int 0, .int 0, .int 0, .int 0, .ref m24, .int 0, .ref m26, .int 0, .ref m28, .ref m29, .ref m30, .ref m31, .ref m32, .ref m33, .ref m34, .ref m35, .ref m36, .int 0, .int 0, .int 0, .int 0, .int 0, .int (-1), .int 0, .ref m44, .ref m45, .ref m46, .ref m47, .ref m48, .int 0, .ref m50, .ref m51, .ref m52, .ref m53, .ref m54, .int 0, .int 0]))]) [1] rfl
        have hD9 := hD.sub (ws' := [(mo, .inr (12, [.int 1, .ref m1, .int 0, .ref m3, .ref m4, .ref m5, .ref m6, .ref m7, .ref m8, .ref m9, .int 0, .ref m11, .ref m12, .ref m13, .ref m14, .ref m15, .ref m16, .ref m17, .ref m18, .ref m19, .int 0, .int 0, .int 0, .int 0, .ref m24, .int 0, .ref m26, .int 0, .ref m28, .ref m29, .ref m30, .ref m31, .ref m32, .ref m33, .ref m34, .ref m35, .ref m36, .int 0, .int 0, .int 0, .int 0, .int 0, .int (-1), .int 0, .ref m44, .ref m45, .ref m46, .ref m47, .ref m48, .int 0, .ref m50, .ref m51, .ref m52, .ref m53, .ref m54, .int 0, .int 0]))]) [1] (by decide) rfl
        have hK9 := hK.sub (tys' := []) [] rfl
        refine W.widen (k := 0) (n := 0) (Nat.le_of_ble_eq_true rfl) (Nat.le_of_ble_eq_true rfl) ?_
        exact (W.iret (v := 0) hx hb hr (fun t ht hW => ⟨⟨0, 1, rfl, Or.inl ⟨rfl, Or.inr c_79⟩, by rw [ht]; exact hP9, va_K.moved hW.alike hK9, hD9⟩, hS.F ht⟩) hS.2.2 dX12_count_35)

set_option maxHeartbeats 4000000 in
set_option maxRecDepth 100000 in
/-- four at 0 -/
theorem m_four0 (l : Launch) (hl0 : l.stackTraces = false) (dC : Nat → ClassId) (dI : Nat → Nat → Nat) (mo : Nat) (m1 : Nat) (m3 : Nat) (m4 : Nat) (m5 : Nat) (m6 : Nat) (m7 : Nat) (m8 : Nat) (m9 : Nat) (m11 : Nat) (m12 : Nat) (m13 : Nat) (m14 : Nat) (m15 : Nat) (m16 : Nat) (m17 : Nat) (m18 : Nat) (m19 : Nat) (m24 : Nat) (m26 : Nat) (m28 : Nat) (m29 : Nat) (m30 : Nat) (m31 : Nat) (m32 : Nat) (m33 : Nat) (m34 : Nat) (m35 : Nat) (m36 : Nat) (m44 : Nat) (m45 : Nat) (m46 : Nat) (m47 : Nat) (m48 : Nat) (m50 : Nat) (m51 : Nat) (m52 : Nat) (m53 : Nat) (m54 : Nat) (k1 : ClassId) (f : Nat → Int32) (fo : Int32) (sz : Nat)  : Met l yX12_four wsX12_four ({ frames := 0, cells := 0, slots := 0, locals := 0 } : Room) (va_Pc [.ref mo, .int fo] (ct_P (dC, dI) [(mo, .inr (12, [.int 0, .ref m1, .int 0, .ref m3, .ref m4, .ref m5, .ref m6, .ref m7, .ref m8, .ref m9, .int 0, .ref m11, .ref m12, .ref m13, .ref m14, .ref m15, .ref m16, .ref m17, .ref m18, .ref m19, .int 0, .int 0, .int 0, .int 0, .ref m24, .int 0, .ref m26, .int 0, .ref m28, .ref m29, .ref m30, .ref m31, .ref m32, .ref m33, .ref m34, .ref m35, .ref m36, .int 0, .int 0, .int 0, .int 0, .int 0, .int (-1), .int 0, .ref m44, .ref m45, .ref m46, .ref m47, .ref m48, .int 0, .ref m50, .ref m51, .ref m52, .ref m53, .ref m54, .int 0, .int 0])), (m1, .inl (k1, 400, .inl f))] [(k1, .byte)] sz)) (va_Qv (fun (u : (Nat → Int32)) => True) (fun (u : (Nat → Int32)) => ct_B (dC, dI) (va_A [(mo, .inr (12, [.int 0, .ref m1, .int 0, .ref m3, .ref m4, .ref m5, .ref m6, .ref m7, .ref m8, .ref m9, .int 0, .ref m11, .ref m12, .ref m13, .ref m14, .ref m15, .ref m16, .ref m17, .ref m18, .ref m19, .int 0, .int 0, .int 0, .int 0, .ref m24, .int 0, .ref m26, .int 0, .ref m28, .ref m29, .ref m30, .ref m31, .ref m32, .ref m33, .ref m34, .ref m35, .ref m36, .int 0, .int 0, .int 0, .int 0, .int 0, .int (-1), .int 0, .ref m44, .ref m45, .ref m46, .ref m47, .ref m48, .int 0, .ref m50, .ref m51, .ref m52, .ref m53, .ref m54, .int 0, .int 0])), (m1, .inl (k1, 400, .inl f))] sz) [(mo, .inr (12, [.int 0, .ref m1, .int 4, .ref m3, .ref m4, .ref m5, .ref m6, .ref m7, .ref m8, .ref m9, .int 0, .ref m11, .ref m12, .ref m13, .ref m14, .ref m15, .ref m16, .ref m17, .ref m18, .ref m19, .int 0, .int 0, .int 0, .int 0, .ref m24, .int 0, .ref m26, .int 0, .ref m28, .ref m29, .ref m30, .ref m31, .ref m32, .ref m33, .ref m34, .ref m35, .ref m36, .int 0, .int 0, .int 0, .int 0, .int 0, .int (-1), .int 0, .ref m44, .ref m45, .ref m46, .ref m47, .ref m48, .int 0, .ref m50, .ref m51, .ref m52, .ref m53, .ref m54, .int 0, .int 0])), (m1, .inl (k1, 400, .inl u))] [(k1, .byte)]) (va_A [(mo, .inr (12, [.int 0, .ref m1, .int 0, .ref m3, .ref m4, .ref m5, .ref m6, .ref m7, .ref m8, .ref m9, .int 0, .ref m11, .ref m12, .ref m13, .ref m14, .ref m15, .ref m16, .ref m17, .ref m18, .ref m19, .int 0, .int 0, .int 0, .int 0, .ref m24, .int 0, .ref m26, .int 0, .ref m28, .ref m29, .ref m30, .ref m31, .ref m32, .ref m33, .ref m34, .ref m35, .ref m36, .int 0, .int 0, .int 0, .int 0, .int 0, .int (-1), .int 0, .ref m44, .ref m45, .ref m46, .ref m47, .ref m48, .int 0, .ref m50, .ref m51, .ref m52, .ref m53, .ref m54, .int 0, .int 0])), (m1, .inl (k1, 400, .inl f))] sz)) 0 0 (va_A [(mo, .inr (12, [.int 0, .ref m1, .int 0, .ref m3, .ref m4, .ref m5, .ref m6, .ref m7, .ref m8, .ref m9, .int 0, .ref m11, .ref m12, .ref m13, .ref m14, .ref m15, .ref m16, .ref m17, .ref m18, .ref m19, .int 0, .int 0, .int 0, .int 0, .ref m24, .int 0, .ref m26, .int 0, .ref m28, .ref m29, .ref m30, .ref m31, .ref m32, .ref m33, .ref m34, .ref m35, .ref m36, .int 0, .int 0, .int 0, .int 0, .int 0, .int (-1), .int 0, .ref m44, .ref m45, .ref m46, .ref m47, .ref m48, .int 0, .ref m50, .ref m51, .ref m52, .ref m53, .ref m54, .int 0, .int 0])), (m1, .inl (k1, 400, .inl f))] sz) := by
  refine Met.ofW (cc := cX12_four) (maxL := 3) (ret := none) (by decide) rfl ?_
  intro p e s m args below meth c s₁ B hml hv
  obtain ⟨rfl, hsz, hP, hK, hD0, hZ⟩ := hv
  have hx := B.exec
  have hb := B.bytes
  have hr := B.returns
  have hts := atoms_spec (ws := wsX12_four) B.pre
  have hown : s.vm.findClass RX12 = some m.cls := findClass_of_methodNamed B.named
  have hlocks := B.notSynchronized
  have in12 : ∀ w ∈ u_ws RX12 TX12 57, w ∈ wsX12_four := fun w h => (List.mem_cons_of_mem _ (List.mem_append_right _ h))
  subst hsz
  have hD := hD0.self (sz := s.heap.size)
  generalize hAe : va_A [(mo, .inr (12, [.int 0, .ref m1, .int 0, .ref m3, .ref m4, .ref m5, .ref m6, .ref m7, .ref m8, .ref m9, .int 0, .ref m11, .ref m12, .ref m13, .ref m14, .ref m15, .ref m16, .ref m17, .ref m18, .ref m19, .int 0, .int 0, .int 0, .int 0, .ref m24, .int 0, .ref m26, .int 0, .ref m28, .ref m29, .ref m30, .ref m31, .ref m32, .ref m33, .ref m34, .ref m35, .ref m36, .int 0, .int 0, .int 0, .int 0, .int 0, .int (-1), .int 0, .ref m44, .ref m45, .ref m46, .ref m47, .ref m48, .int 0, .ref m50, .ref m51, .ref m52, .ref m53, .ref m54, .int 0, .int 0])), (m1, .inl (k1, 400, .inl f))] s.heap.size = A at hD hZ ⊢
  have hA : ∀ q : Nat, s.heap.size ≤ q → A q := fun q h => by rw [← hAe]; exact Or.inr h
  have hS : va_S A s.heap s.heap [] := va_S.rf
  have hP : va_P (dC, dI) vwCl [(mo, .inr (12, [.int 0, .ref m1, .int 0, .ref m3, .ref m4, .ref m5, .ref m6, .ref m7, .ref m8, .ref m9, .int 0, .ref m11, .ref m12, .ref m13, .ref m14, .ref m15, .ref m16, .ref m17, .ref m18, .ref m19, .int 0, .int 0, .int 0, .int 0, .ref m24, .int 0, .ref m26, .int 0, .ref m28, .ref m29, .ref m30, .ref m31, .ref m32, .ref m33, .ref m34, .ref m35, .ref m36, .int 0, .int 0, .int 0, .int 0, .int 0, .int (-1), .int 0, .ref m44, .ref m45, .ref m46, .ref m47, .ref m48, .int 0, .ref m50, .ref m51, .ref m52, .ref m53, .ref m54, .int 0, .int 0])), (m1, .inl (k1, 400, .inl f))] s.heap := hP
  have hK : va_K (dC, dI) vwCl [(k1, .byte)] s := hK
  have hD : va_D A [(mo, .inr (12, [.int 0, .ref m1, .int 0, .ref m3, .ref m4, .ref m5, .ref m6, .ref m7, .ref m8, .ref m9, .int 0, .ref m11, .ref m12, .ref m13, .ref m14, .ref m15, .ref m16, .ref m17, .ref m18, .ref m19, .int 0, .int 0, .int 0, .int 0, .ref m24, .int 0, .ref m26, .int 0, .ref m28, .ref m29, .ref m30, .ref m31, .ref m32, .ref m33, .ref m34, .ref m35, .ref m36, .int 0, .int 0, .int 0, .int 0, .int 0, .int (-1), .int 0, .ref m44, .ref m45, .ref m46, .ref m47, .ref m48, .int 0, .ref m50, .ref m51, .ref m52, .ref m53, .ref m54, .int 0, .int 0])), (m1, .inl (k1, 400, .inl f))] := hD
  have hl := lv_entry ([.ref mo, .int fo]) (n := 3) (Nat.le_of_ble_eq_true rfl)
  rw [lg_entry_eq]
  generalize (lg_sl ([.ref mo, .int fo]) ++ List.replicate (3 - (lg_sl ([.ref mo, .int fo])).length) Slot.unset).toArray = ls at hl ⊢
  have hl : lv_has ls 3 [(0, .ref mo), (1, .int fo)] := hl
  refine lv_bipush (v := 24) hx hb dX12_four_0 (by decide) ?_
  refine lv_istore_n (lv' := [(2, .int 24), (0, .ref mo), (1, .int fo)]) hx hb dX12_four_2 rfl hl (by decide) rfl (fun ls hl => ?_)
  refine lv_iload_n hx hb dX12_four_3 rfl (lv_at hl 0 rfl) ?_
  refine lv_if_lt (tgt := 36) hx hb dX12_four_4 (by decide) (fun c_1 => absurd c_1 (by decide)) (fun _ => ?_)
  refine lv_aload_n hx hb dX12_four_7 rfl (lv_at hl 1 rfl) ?_
  refine va_get (D := (dC, dI)) (ci := 12) (v := .ref m1) (C := RX12) (T := TX12) (N := 57) hx hb hts in12 hown hK hP 0 rfl rfl 1 (by decide) (hts (.fieldLink RX12 13 "FactKeeperModel" "tape" "[B") (by decide +kernel)) (fun _ h9 => h9) rfl dX12_four_8 ?_
  refine lv_aload_n hx hb dX12_four_11 rfl (lv_at hl 1 rfl) ?_
  refine va_get (D := (dC, dI)) (ci := 12) (v := .int 0) (C := RX12) (T := TX12) (N := 57) hx hb hts in12 hown hK hP 0 rfl rfl 2 (by decide) (hts (.fieldLink RX12 133 "FactKeeperModel" "taped" "I") (by decide +kernel)) (fun _ h9 => h9) rfl dX12_four_12 ?_
  refine lv_iload_n hx hb dX12_four_15 rfl (lv_at hl 2 rfl) ?_
  refine lv_iload_n hx hb dX12_four_16 rfl (lv_at hl 0 rfl) ?_
  refine lv_ishr hx hb dX12_four_17 ?_
  refine lv_topi (fun z_2 ez_2 => ?_)
  obtain ⟨z_3, ez_3⟩ : ∃ y : Int32, y = (z_2 : Int32).toInt8.toInt32 := ⟨_, rfl⟩
  refine lv_i2b (v := z_3) hx hb dX12_four_18 ez_3.symm ?_
  refine va_bast hx hb hK hP hD hS 1 0 rfl rfl (by unfold vp_in; decide) dX12_four_19 (fun H locs hP hD hS => ?_)
  have hP : va_P (dC, dI) vwCl [(mo, .inr (12, [.int 0, .ref m1, .int 0, .ref m3, .ref m4, .ref m5, .ref m6, .ref m7, .ref m8, .ref m9, .int 0, .ref m11, .ref m12, .ref m13, .ref m14, .ref m15, .ref m16, .ref m17, .ref m18, .ref m19, .int 0, .int 0, .int 0, .int 0, .ref m24, .int 0, .ref m26, .int 0, .ref m28, .ref m29, .ref m30, .ref m31, .ref m32, .ref m33, .ref m34, .ref m35, .ref m36, .int 0, .int 0, .int 0, .int 0, .int 0, .int (-1), .int 0, .ref m44, .ref m45, .ref m46, .ref m47, .ref m48, .int 0, .ref m50, .ref m51, .ref m52, .ref m53, .ref m54, .int 0, .int 0])), (m1, .inl (k1, 400, .inl (upd f (0 : Int32).toNatClampNeg (vp_nar .byte z_3))))] H := hP
  have hD : va_D A [(mo, .inr (12, [.int 0, .ref m1, .int 0, .ref m3, .ref m4, .ref m5, .ref m6, .ref m7, .ref m8, .ref m9, .int 0, .ref m11, .ref m12, .ref m13, .ref m14, .ref m15, .ref m16, .ref m17, .ref m18, .ref m19, .int 0, .int 0, .int 0, .int 0, .ref m24, .int 0, .ref m26, .int 0, .ref m28, .ref m29, .ref m30, .ref m31, .ref m32, .ref m33, .ref m34, .ref m35, .ref m36, .int 0, .int 0, .int 0, .int 0, .int 0, .int (-1), .int 0, .ref m44, .ref m45, .ref m46, .ref m47, .ref m48, .int 0, .ref m50, .ref m51, .ref m52, .ref m53, .ref m54, .int 0, .int 0])), (m1, .inl (k1, 400, .inl (upd f (0 : Int32).toNatClampNeg (vp_nar .byte z_3))))] := hD
  obtain ⟨g_4, eg_4⟩ : ∃ g : Nat → Int32, g = (upd f (0 : Int32).toNatClampNeg (vp_nar .byte z_3)) := ⟨_, rfl⟩
  rw [← eg_4] at hP hD
  have hP : va_P (dC, dI) vwCl [(mo, .inr (12, [.int 0, .ref m1, .int 0, .ref m3, .ref m4, .ref m5, .ref m6, .ref m7, .ref m8, .ref m9, .int 0, .ref m11, .ref m12, .ref m13, .ref m14, .ref m15, .ref m16, .ref m17, .ref m18, .ref m19, .int 0, .int 0, .int 0, .int 0, .ref m24, .int 0, .ref m26, .int 0, .ref m28, .ref m29, .ref m30, .ref m31, .ref m32, .ref m33, .ref m34, .ref m35, .ref m36, .int 0, .int 0, .int 0, .int 0, .int 0, .int (-1), .int 0, .ref m44, .ref m45, .ref m46, .ref m47, .ref m48, .int 0, .ref m50, .ref m51, .ref m52, .ref m53, .ref m54, .int 0, .int 0])), (m1, .inl (k1, 400, .inl g_4))] H := hP
  have hD : va_D A [(mo, .inr (12, [.int 0, .ref m1, .int 0, .ref m3, .ref m4, .ref m5, .ref m6, .ref m7, .ref m8, .ref m9, .int 0, .ref m11, .ref m12, .ref m13, .ref m14, .ref m15, .ref m16, .ref m17, .ref m18, .ref m19, .int 0, .int 0, .int 0, .int 0, .ref m24, .int 0, .ref m26, .int 0, .ref m28, .ref m29, .ref m30, .ref m31, .ref m32, .ref m33, .ref m34, .ref m35, .ref m36, .int 0, .int 0, .int 0, .int 0, .int 0, .int (-1), .int 0, .ref m44, .ref m45, .ref m46, .ref m47, .ref m48, .int 0, .ref m50, .ref m51, .ref m52, .ref m53, .ref m54, .int 0, .int 0])), (m1, .inl (k1, 400, .inl g_4))] := hD
  refine lv_aload_n hx hb dX12_four_20 rfl (lv_at hl 1 rfl) ?_
  refine lv_dup hx hb dX12_four_21 rfl ?_
  refine va_get (D := (dC, dI)) (ci := 12) (v := .int 0) (C := RX12) (T := TX12) (N := 57) hx hb hts in12 hown hK hP 0 rfl rfl 2 (by decide) (hts (.fieldLink RX12 133 "FactKeeperModel" "taped" "I") (by decide +kernel)) (fun _ h9 => h9) rfl dX12_four_22 ?_
  refine lv_iconst (v := 1) hx hb dX12_four_25 (by decide) ?_
  refine lv_iadd hx hb dX12_four_26 ?_
  refine lv_topi (fun z_5 ez_5 => ?_)
  obtain rfl : z_5 = 1 := ez_5.trans (by decide)
  refine va_put (D := (dC, dI)) (ci := 12) (v := .int 1) (ty := .int) (C := RX12) (T := TX12) (N := 57) hx hb hts in12 tyX12 tyX12_ok nmX12 hown hK hP hD hS 0 rfl rfl 2 (by decide) (hts (.fieldLink RX12 133 "FactKeeperModel" "taped" "I") (by decide +kernel)) (fun _ h9 => h9) rfl (by decide +kernel) rfl rfl (Nat.le_of_ble_eq_true rfl) dX12_four_27 (fun H locs hP hD hS => ?_)
  have hP : va_P (dC, dI) vwCl [(mo, .inr (12, [.int 0, .ref m1, .int 1, .ref m3, .ref m4, .ref m5, .ref m6, .ref m7, .ref m8, .ref m9, .int 0, .ref m11, .ref m12, .ref m13, .ref m14, .ref m15, .ref m16, .ref m17, .ref m18, .ref m19, .int 0, .int 0, .int 0, .int 0, .ref m24, .int 0, .ref m26, .int 0, .ref m28, .ref m29, .ref m30, .ref m31, .ref m32, .ref m33, .ref m34, .ref m35, .ref m36, .int 0, .int 0, .int 0, .int 0, .int 0, .int (-1), .int 0, .ref m44, .ref m45, .ref m46, .ref m47, .ref m48, .int 0, .ref m50, .ref m51, .ref m52, .ref m53, .ref m54, .int 0, .int 0])), (m1, .inl (k1, 400, .inl g_4))] H := hP
  have hD : va_D A [(mo, .inr (12, [.int 0, .ref m1, .int 1, .ref m3, .ref m4, .ref m5, .ref m6, .ref m7, .ref m8, .ref m9, .int 0, .ref m11, .ref m12, .ref m13, .ref m14, .ref m15, .ref m16, .ref m17, .ref m18, .ref m19, .int 0, .int 0, .int 0, .int 0, .ref m24, .int 0, .ref m26, .int 0, .ref m28, .ref m29, .ref m30, .ref m31, .ref m32, .ref m33, .ref m34, .ref m35, .ref m36, .int 0, .int 0, .int 0, .int 0, .int 0, .int (-1), .int 0, .ref m44, .ref m45, .ref m46, .ref m47, .ref m48, .int 0, .ref m50, .ref m51, .ref m52, .ref m53, .ref m54, .int 0, .int 0])), (m1, .inl (k1, 400, .inl g_4))] := hD
  refine lv_iinc (v := 16) (lv' := [(2, .int 16), (0, .ref mo), (1, .int fo)]) hx hb dX12_four_30 hl (k := 0) rfl (by decide) (by decide) rfl (fun ls hl => ?_)
  refine lv_goto (tgt := 3) hx hb dX12_four_33 (by decide) ?_
  refine lv_iload_n hx hb dX12_four_3 rfl (lv_at hl 0 rfl) ?_
  refine lv_if_lt (tgt := 36) hx hb dX12_four_4 (by decide) (fun c_6 => absurd c_6 (by decide)) (fun _ => ?_)
  refine lv_aload_n hx hb dX12_four_7 rfl (lv_at hl 1 rfl) ?_
  refine va_get (D := (dC, dI)) (ci := 12) (v := .ref m1) (C := RX12) (T := TX12) (N := 57) hx hb hts in12 hown hK hP 0 rfl rfl 1 (by decide) (hts (.fieldLink RX12 13 "FactKeeperModel" "tape" "[B") (by decide +kernel)) (fun _ h9 => h9) rfl dX12_four_8 ?_
  refine lv_aload_n hx hb dX12_four_11 rfl (lv_at hl 1 rfl) ?_
  refine va_get (D := (dC, dI)) (ci := 12) (v := .int 1) (C := RX12) (T := TX12) (N := 57) hx hb hts in12 hown hK hP 0 rfl rfl 2 (by decide) (hts (.fieldLink RX12 133 "FactKeeperModel" "taped" "I") (by decide +kernel)) (fun _ h9 => h9) rfl dX12_four_12 ?_
  refine lv_iload_n hx hb dX12_four_15 rfl (lv_at hl 2 rfl) ?_
  refine lv_iload_n hx hb dX12_four_16 rfl (lv_at hl 0 rfl) ?_
  refine lv_ishr hx hb dX12_four_17 ?_
  refine lv_topi (fun z_7 ez_7 => ?_)
  obtain ⟨z_8, ez_8⟩ : ∃ y : Int32, y = (z_7 : Int32).toInt8.toInt32 := ⟨_, rfl⟩
  refine lv_i2b (v := z_8) hx hb dX12_four_18 ez_8.symm ?_
  refine va_bast hx hb hK hP hD hS 1 0 rfl rfl (by unfold vp_in; decide) dX12_four_19 (fun H locs hP hD hS => ?_)
  have hP : va_P (dC, dI) vwCl [(mo, .inr (12, [.int 0, .ref m1, .int 1, .ref m3, .ref m4, .ref m5, .ref m6, .ref m7, .ref m8, .ref m9, .int 0, .ref m11, .ref m12, .ref m13, .ref m14, .ref m15, .ref m16, .ref m17, .ref m18, .ref m19, .int 0, .int 0, .int 0, .int 0, .ref m24, .int 0, .ref m26, .int 0, .ref m28, .ref m29, .ref m30, .ref m31, .ref m32, .ref m33, .ref m34, .ref m35, .ref m36, .int 0, .int 0, .int 0, .int 0, .int 0, .int (-1), .int 0, .ref m44, .ref m45, .ref m46, .ref m47, .ref m48, .int 0, .ref m50, .ref m51, .ref m52, .ref m53, .ref m54, .int 0, .int 0])), (m1, .inl (k1, 400, .inl (upd g_4 (1 : Int32).toNatClampNeg (vp_nar .byte z_8))))] H := hP
  have hD : va_D A [(mo, .inr (12, [.int 0, .ref m1, .int 1, .ref m3, .ref m4, .ref m5, .ref m6, .ref m7, .ref m8, .ref m9, .int 0, .ref m11, .ref m12, .ref m13, .ref m14, .ref m15, .ref m16, .ref m17, .ref m18, .ref m19, .int 0, .int 0, .int 0, .int 0, .ref m24, .int 0, .ref m26, .int 0, .ref m28, .ref m29, .ref m30, .ref m31, .ref m32, .ref m33, .ref m34, .ref m35, .ref m36, .int 0, .int 0, .int 0, .int 0, .int 0, .int (-1), .int 0, .ref m44, .ref m45, .ref m46, .ref m47, .ref m48, .int 0, .ref m50, .ref m51, .ref m52, .ref m53, .ref m54, .int 0, .int 0])), (m1, .inl (k1, 400, .inl (upd g_4 (1 : Int32).toNatClampNeg (vp_nar .byte z_8))))] := hD
  obtain ⟨g_9, eg_9⟩ : ∃ g : Nat → Int32, g = (upd g_4 (1 : Int32).toNatClampNeg (vp_nar .byte z_8)) := ⟨_, rfl⟩
  rw [← eg_9] at hP hD
  have hP : va_P (dC, dI) vwCl [(mo, .inr (12, [.int 0, .ref m1, .int 1, .ref m3, .ref m4, .ref m5, .ref m6, .ref m7, .ref m8, .ref m9, .int 0, .ref m11, .ref m12, .ref m13, .ref m14, .ref m15, .ref m16, .ref m17, .ref m18, .ref m19, .int 0, .int 0, .int 0, .int 0, .ref m24, .int 0, .ref m26, .int 0, .ref m28, .ref m29, .ref m30, .ref m31, .ref m32, .ref m33, .ref m34, .ref m35, .ref m36, .int 0, .int 0, .int 0, .int 0, .int 0, .int (-1), .int 0, .ref m44, .ref m45, .ref m46, .ref m47, .ref m48, .int 0, .ref m50, .ref m51, .ref m52, .ref m53, .ref m54, .int 0, .int 0])), (m1, .inl (k1, 400, .inl g_9))] H := hP
  have hD : va_D A [(mo, .inr (12, [.int 0, .ref m1, .int 1, .ref m3, .ref m4, .ref m5, .ref m6, .ref m7, .ref m8, .ref m9, .int 0, .ref m11, .ref m12, .ref m13, .ref m14, .ref m15, .ref m16, .ref m17, .ref m18, .ref m19, .int 0, .int 0, .int 0, .int 0, .ref m24, .int 0, .ref m26, .int 0, .ref m28, .ref m29, .ref m30, .ref m31, .ref m32, .ref m33, .ref m34, .ref m35, .ref m36, .int 0, .int 0, .int 0, .int 0, .int 0, .int (-1), .int 0, .ref m44, .ref m45, .ref m46, .ref m47, .ref m48, .int 0, .ref m50, .ref m51, .ref m52, .ref m53, .ref m54, .int 0, .int 0])), (m1, .inl (k1, 400, .inl g_9))] := hD
  refine lv_aload_n hx hb dX12_four_20 rfl (lv_at hl 1 rfl) ?_
  refine lv_dup hx hb dX12_four_21 rfl ?_
  refine va_get (D := (dC, dI)) (ci := 12) (v := .int 1) (C := RX12) (T := TX12) (N := 57) hx hb hts in12 hown hK hP 0 rfl rfl 2 (by decide) (hts (.fieldLink RX12 133 "FactKeeperModel" "taped" "I") (by decide +kernel)) (fun _ h9 => h9) rfl dX12_four_22 ?_
  refine lv_iconst (v := 1) hx hb dX12_four_25 (by decide) ?_
  refine lv_iadd hx hb dX12_four_26 ?_
  refine lv_topi (fun z_10 ez_10 => ?_)
  obtain rfl : z_10 = 2 := ez_10.trans (by decide)
  refine va_put (D := (dC, dI)) (ci := 12) (v := .int 2) (ty := .int) (C := RX12) (T := TX12) (N := 57) hx hb hts in12 tyX12 tyX12_ok nmX12 hown hK hP hD hS 0 rfl rfl 2 (by decide) (hts (.fieldLink RX12 133 "FactKeeperModel" "taped" "I") (by decide +kernel)) (fun _ h9 => h9) rfl (by decide +kernel) rfl rfl (Nat.le_of_ble_eq_true rfl) dX12_four_27 (fun H locs hP hD hS => ?_)
  have hP : va_P (dC, dI) vwCl [(mo, .inr (12, [.int 0, .ref m1, .int 2, .ref m3, .ref m4, .ref m5, .ref m6, .ref m7, .ref m8, .ref m9, .int 0, .ref m11, .ref m12, .ref m13, .ref m14, .ref m15, .ref m16, .ref m17, .ref m18, .ref m19, .int 0, .int 0, .int 0, .int 0, .ref m24, .int 0, .ref m26, .int 0, .ref m28, .ref m29, .ref m30, .ref m31, .ref m32, .ref m33, .ref m34, .ref m35, .ref m36, .int 0, .int 0, .int 0, .int 0, .int 0, .int (-1), .int 0, .ref m44, .ref m45, .ref m46, .ref m47, .ref m48, .int 0, .ref m50, .ref m51, .ref m52, .ref m53, .ref m54, .int 0, .int 0])), (m1, .inl (k1, 400, .inl g_9))] H := hP
  have hD : va_D A [(mo, .inr (12, [.int 0, .ref m1, .int 2, .ref m3, .ref m4, .ref m5, .ref m6, .ref m7, .ref m8, .ref m9, .int 0, .ref m11, .ref m12, .ref m13, .ref m14, .ref m15, .ref m16, .ref m17, .ref m18, .ref m19, .int 0, .int 0, .int 0, .int 0, .ref m24, .int 0, .ref m26, .int 0, .ref m28, .ref m29, .ref m30, .ref m31, .ref m32, .ref m33, .ref m34, .ref m35, .ref m36, .int 0, .int 0, .int 0, .int 0, .int 0, .int (-1), .int 0, .ref m44, .ref m45, .ref m46, .ref m47, .ref m48, .int 0, .ref m50, .ref m51, .ref m52, .ref m53, .ref m54, .int 0, .int 0])), (m1, .inl (k1, 400, .inl g_9))] := hD
  refine lv_iinc (v := 8) (lv' := [(2, .int 8), (0, .ref mo), (1, .int fo)]) hx hb dX12_four_30 hl (k := 0) rfl (by decide) (by decide) rfl (fun ls hl => ?_)
  refine lv_goto (tgt := 3) hx hb dX12_four_33 (by decide) ?_
  refine lv_iload_n hx hb dX12_four_3 rfl (lv_at hl 0 rfl) ?_
  refine lv_if_lt (tgt := 36) hx hb dX12_four_4 (by decide) (fun c_11 => absurd c_11 (by decide)) (fun _ => ?_)
  refine lv_aload_n hx hb dX12_four_7 rfl (lv_at hl 1 rfl) ?_
  refine va_get (D := (dC, dI)) (ci := 12) (v := .ref m1) (C := RX12) (T := TX12) (N := 57) hx hb hts in12 hown hK hP 0 rfl rfl 1 (by decide) (hts (.fieldLink RX12 13 "FactKeeperModel" "tape" "[B") (by decide +kernel)) (fun _ h9 => h9) rfl dX12_four_8 ?_
  refine lv_aload_n hx hb dX12_four_11 rfl (lv_at hl 1 rfl) ?_
  refine va_get (D := (dC, dI)) (ci := 12) (v := .int 2) (C := RX12) (T := TX12) (N := 57) hx hb hts in12 hown hK hP 0 rfl rfl 2 (by decide) (hts (.fieldLink RX12 133 "FactKeeperModel" "taped" "I") (by decide +kernel)) (fun _ h9 => h9) rfl dX12_four_12 ?_
  refine lv_iload_n hx hb dX12_four_15 rfl (lv_at hl 2 rfl) ?_
  refine lv_iload_n hx hb dX12_four_16 rfl (lv_at hl 0 rfl) ?_
  refine lv_ishr hx hb dX12_four_17 ?_
  refine lv_topi (fun z_12 ez_12 => ?_)
  obtain ⟨z_13, ez_13⟩ : ∃ y : Int32, y = (z_12 : Int32).toInt8.toInt32 := ⟨_, rfl⟩
  refine lv_i2b (v := z_13) hx hb dX12_four_18 ez_13.symm ?_
  refine va_bast hx hb hK hP hD hS 1 0 rfl rfl (by unfold vp_in; decide) dX12_four_19 (fun H locs hP hD hS => ?_)
  have hP : va_P (dC, dI) vwCl [(mo, .inr (12, [.int 0, .ref m1, .int 2, .ref m3, .ref m4, .ref m5, .ref m6, .ref m7, .ref m8, .ref m9, .int 0, .ref m11, .ref m12, .ref m13, .ref m14, .ref m15, .ref m16, .ref m17, .ref m18, .ref m19, .int 0, .int 0, .int 0, .int 0, .ref m24, .int 0, .ref m26, .int 0, .ref m28, .ref m29, .ref m30, .ref m31, .ref m32, .ref m33, .ref m34, .ref m35, .ref m36, .int 0, .int 0, .int 0, .int 0, .int 0, .int (-1), .int 0, .ref m44, .ref m45, .ref m46, .ref m47, .ref m48, .int 0, .ref m50, .ref m51, .ref m52, .ref m53, .ref m54, .int 0, .int 0])), (m1, .inl (k1, 400, .inl (upd g_9 (2 : Int32).toNatClampNeg (vp_nar .byte z_13))))] H := hP
  have hD : va_D A [(mo, .inr (12, [.int 0, .ref m1, .int 2, .ref m3, .ref m4, .ref m5, .ref m6, .ref m7, .ref m8, .ref m9, .int 0, .ref m11, .ref m12, .ref m13, .ref m14, .ref m15, .ref m16, .ref m17, .ref m18, .ref m19, .int 0, .int 0, .int 0, .int 0, .ref m24, .int 0, .ref m26, .int 0, .ref m28, .ref m29, .ref m30, .ref m31, .ref m32, .ref m33, .ref m34, .ref m35, .ref m36, .int 0, .int 0, .int 0, .int 0, .int 0, .int (-1), .int 0, .ref m44, .ref m45, .ref m46, .ref m47, .ref m48, .int 0, .ref m50, .ref m51, .ref m52, .ref m53, .ref m54, .int 0, .int 0])), (m1, .inl (k1, 400, .inl (upd g_9 (2 : Int32).toNatClampNeg (vp_nar .byte z_13))))] := hD
  obtain ⟨g_14, eg_14⟩ : ∃ g : Nat → Int32, g = (upd g_9 (2 : Int32).toNatClampNeg (vp_nar .byte z_13)) := ⟨_, rfl⟩
  rw [← eg_14] at hP hD
  have hP : va_P (dC, dI) vwCl [(mo, .inr (12, [.int 0, .ref m1, .int 2, .ref m3, .ref m4, .ref m5, .ref m6, .ref m7, .ref m8, .ref m9, .int 0, .ref m11, .ref m12, .ref m13, .ref m14, .ref m15, .ref m16, .ref m17, .ref m18, .ref m19, .int 0, .int 0, .int 0, .int 0, .ref m24, .int 0, .ref m26, .int 0, .ref m28, .ref m29, .ref m30, .ref m31, .ref m32, .ref m33, .ref m34, .ref m35, .ref m36, .int 0, .int 0, .int 0, .int 0, .int 0, .int (-1), .int 0, .ref m44, .ref m45, .ref m46, .ref m47, .ref m48, .int 0, .ref m50, .ref m51, .ref m52, .ref m53, .ref m54, .int 0, .int 0])), (m1, .inl (k1, 400, .inl g_14))] H := hP
  have hD : va_D A [(mo, .inr (12, [.int 0, .ref m1, .int 2, .ref m3, .ref m4, .ref m5, .ref m6, .ref m7, .ref m8, .ref m9, .int 0, .ref m11, .ref m12, .ref m13, .ref m14, .ref m15, .ref m16, .ref m17, .ref m18, .ref m19, .int 0, .int 0, .int 0, .int 0, .ref m24, .int 0, .ref m26, .int 0, .ref m28, .ref m29, .ref m30, .ref m31, .ref m32, .ref m33, .ref m34, .ref m35, .ref m36, .int 0, .int 0, .int 0, .int 0, .int 0, .int (-1), .int 0, .ref m44, .ref m45, .ref m46, .ref m47, .ref m48, .int 0, .ref m50, .ref m51, .ref m52, .ref m53, .ref m54, .int 0, .int 0])), (m1, .inl (k1, 400, .inl g_14))] := hD
  refine lv_aload_n hx hb dX12_four_20 rfl (lv_at hl 1 rfl) ?_
  refine lv_dup hx hb dX12_four_21 rfl ?_
  refine va_get (D := (dC, dI)) (ci := 12) (v := .int 2) (C := RX12) (T := TX12) (N := 57) hx hb hts in12 hown hK hP 0 rfl rfl 2 (by decide) (hts (.fieldLink RX12 133 "FactKeeperModel" "taped" "I") (by decide +kernel)) (fun _ h9 => h9) rfl dX12_four_22 ?_
  refine lv_iconst (v := 1) hx hb dX12_four_25 (by decide) ?_
  refine lv_iadd hx hb dX12_four_26 ?_
  refine lv_topi (fun z_15 ez_15 => ?_)
  obtain rfl : z_15 = 3 := ez_15.trans (by decide)
  refine va_put (D := (dC, dI)) (ci := 12) (v := .int 3) (ty := .int) (C := RX12) (T := TX12) (N := 57) hx hb hts in12 tyX12 tyX12_ok nmX12 hown hK hP hD hS 0 rfl rfl 2 (by decide) (hts (.fieldLink RX12 133 "FactKeeperModel" "taped" "I") (by decide +kernel)) (fun _ h9 => h9) rfl (by decide +kernel) rfl rfl (Nat.le_of_ble_eq_true rfl) dX12_four_27 (fun H locs hP hD hS => ?_)
  have hP : va_P (dC, dI) vwCl [(mo, .inr (12, [.int 0, .ref m1, .int 3, .ref m3, .ref m4, .ref m5, .ref m6, .ref m7, .ref m8, .ref m9, .int 0, .ref m11, .ref m12, .ref m13, .ref m14, .ref m15, .ref m16, .ref m17, .ref m18, .ref m19, .int 0, .int 0, .int 0, .int 0, .ref m24, .int 0, .ref m26, .int 0, .ref m28, .ref m29, .ref m30, .ref m31, .ref m32, .ref m33, .ref m34, .ref m35, .ref m36, .int 0, .int 0, .int 0, .int 0, .int 0, .int (-1), .int 0, .ref m44, .ref m45, .ref m46, .ref m47, .ref m48, .int 0, .ref m50, .ref m51, .ref m52, .ref m53, .ref m54, .int 0, .int 0])), (m1, .inl (k1, 400, .inl g_14))] H := hP
  have hD : va_D A [(mo, .inr (12, [.int 0, .ref m1, .int 3, .ref m3, .ref m4, .ref m5, .ref m6, .ref m7, .ref m8, .ref m9, .int 0, .ref m11, .ref m12, .ref m13, .ref m14, .ref m15, .ref m16, .ref m17, .ref m18, .ref m19, .int 0, .int 0, .int 0, .int 0, .ref m24, .int 0, .ref m26, .int 0, .ref m28, .ref m29, .ref m30, .ref m31, .ref m32, .ref m33, .ref m34, .ref m35, .ref m36, .int 0, .int 0, .int 0, .int 0, .int 0, .int (-1), .int 0, .ref m44, .ref m45, .ref m46, .ref m47, .ref m48, .int 0, .ref m50, .ref m51, .ref m52, .ref m53, .ref m54, .int 0, .int 0])), (m1, .inl (k1, 400, .inl g_14))] := hD
  refine lv_iinc (v := 0) (lv' := [(2, .int 0), (0, .ref mo), (1, .int fo)]) hx hb dX12_four_30 hl (k := 0) rfl (by decide) (by decide) rfl (fun ls hl => ?_)
  refine lv_goto (tgt := 3) hx hb dX12_four_33 (by decide) ?_
  refine lv_iload_n hx hb dX12_four_3 rfl (lv_at hl 0 rfl) ?_
  refine lv_if_lt (tgt := 36) hx hb dX12_four_4 (by decide) (fun c_16 => absurd c_16 (by decide)) (fun _ => ?_)
  refine lv_aload_n hx hb dX12_four_7 rfl (lv_at hl 1 rfl) ?_
  refine va_get (D := (dC, dI)) (ci := 12) (v := .ref m1) (C := RX12) (T := TX12) (N := 57) hx hb hts in12 hown hK hP 0 rfl rfl 1 (by decide) (hts (.fieldLink RX12 13 "FactKeeperModel" "tape" "[B") (by decide +kernel)) (fun _ h9 => h9) rfl dX12_four_8 ?_
  refine lv_aload_n hx hb dX12_four_11 rfl (lv_at hl 1 rfl) ?_
  refine va_get (D := (dC, dI)) (ci := 12) (v := .int 3) (C := RX12) (T := TX12) (N := 57) hx hb hts in12 hown hK hP 0 rfl rfl 2 (by decide) (hts (.fieldLink RX12 133 "FactKeeperModel" "taped" "I") (by decide +kernel)) (fun _ h9 => h9) rfl dX12_four_12 ?_
  refine lv_iload_n hx hb dX12_four_15 rfl (lv_at hl 2 rfl) ?_
  refine lv_iload_n hx hb dX12_four_16 rfl (lv_at hl 0 rfl) ?_
  refine lv_ishr hx hb dX12_four_17 ?_
  refine lv_topi (fun z_17 ez_17 => ?_)
  obtain ⟨z_18, ez_18⟩ : ∃ y : Int32, y = (z_17 : Int32).toInt8.toInt32 := ⟨_, rfl⟩
  refine lv_i2b (v := z_18) hx hb dX12_four_18 ez_18.symm ?_
  refine va_bast hx hb hK hP hD hS 1 0 rfl rfl (by unfold vp_in; decide) dX12_four_19 (fun H locs hP hD hS => ?_)
  have hP : va_P (dC, dI) vwCl [(mo, .inr (12, [.int 0, .ref m1, .int 3, .ref m3, .ref m4, .ref m5, .ref m6, .ref m7, .ref m8, .ref m9, .int 0, .ref m11, .ref m12, .ref m13, .ref m14, .ref m15, .ref m16, .ref m17, .ref m18, .ref m19, .int 0, .int 0, .int 0, .int 0, .ref m24, .int 0, .ref m26, .int 0, .ref m28, .ref m29, .ref m30, .ref m31, .ref m32, .ref m33, .ref m34, .ref m35, .ref m36, .int 0, .int 0, .int 0, .int 0, .int 0, .int (-1), .int 0, .ref m44, .ref m45, .ref m46, .ref m47, .ref m48, .int 0, .ref m50, .ref m51, .ref m52, .ref m53, .ref m54, .int 0, .int 0])), (m1, .inl (k1, 400, .inl (upd g_14 (3 : Int32).toNatClampNeg (vp_nar .byte z_18))))] H := hP
  have hD : va_D A [(mo, .inr (12, [.int 0, .ref m1, .int 3, .ref m3, .ref m4, .ref m5, .ref m6, .ref m7, .ref m8, .ref m9, .int 0, .ref m11, .ref m12, .ref m13, .ref m14, .ref m15, .ref m16, .ref m17, .ref m18, .ref m19, .int 0, .int 0, .int 0, .int 0, .ref m24, .int 0, .ref m26, .int 0, .ref m28, .ref m29, .ref m30, .ref m31, .ref m32, .ref m33, .ref m34, .ref m35, .ref m36, .int 0, .int 0, .int 0, .int 0, .int 0, .int (-1), .int 0, .ref m44, .ref m45, .ref m46, .ref m47, .ref m48, .int 0, .ref m50, .ref m51, .ref m52, .ref m53, .ref m54, .int 0, .int 0])), (m1, .inl (k1, 400, .inl (upd g_14 (3 : Int32).toNatClampNeg (vp_nar .byte z_18))))] := hD
  obtain ⟨g_19, eg_19⟩ : ∃ g : Nat → Int32, g = (upd g_14 (3 : Int32).toNatClampNeg (vp_nar .byte z_18)) := ⟨_, rfl⟩
  rw [← eg_19] at hP hD
  have hP : va_P (dC, dI) vwCl [(mo, .inr (12, [.int 0, .ref m1, .int 3, .ref m3, .ref m4, .ref m5, .ref m6, .ref m7, .ref m8, .ref m9, .int 0, .ref m11, .ref m12, .ref m13, .ref m14, .ref m15, .ref m16, .ref m17, .ref m18, .ref m19, .int 0, .int 0, .int 0, .int 0, .ref m24, .int 0, .ref m26, .int 0, .ref m28, .ref m29, .ref m30, .ref m31, .ref m32, .ref m33, .ref m34, .ref m35, .ref m36, .int 0, .int 0, .int 0, .int 0, .int 0, .int (-1), .int 0, .ref m44, .ref m45, .ref m46, .ref m47, .ref m48, .int 0, .ref m50, .ref m51, .ref m52, .ref m53, .ref m54, .int 0, .int 0])), (m1, .inl (k1, 400, .inl g_19))] H := hP
  have hD : va_D A [(mo, .inr (12, [.int 0, .ref m1, .int 3, .ref m3, .ref m4, .ref m5, .ref m6, .ref m7, .ref m8, .ref m9, .int 0, .ref m11, .ref m12, .ref m13, .ref m14, .ref m15, .ref m16, .ref m17, .ref m18, .ref m19, .int 0, .int 0, .int 0, .int 0, .ref m24, .int 0, .ref m26, .int 0, .ref m28, .ref m29, .ref m30, .ref m31, .ref m32, .ref m33, .ref m34, .ref m35, .ref m36, .int 0, .int 0, .int 0, .int 0, .int 0, .int (-1), .int 0, .ref m44, .ref m45, .ref m46, .ref m47, .ref m48, .int 0, .ref m50, .ref m51, .ref m52, .ref m53, .ref m54, .int 0, .int 0])), (m1, .inl (k1, 400, .inl g_19))] := hD
  refine lv_aload_n hx hb dX12_four_20 rfl (lv_at hl 1 rfl) ?_
  refine lv_dup hx hb dX12_four_21 rfl ?_
  refine va_get (D := (dC, dI)) (ci := 12) (v := .int 3) (C := RX12) (T := TX12) (N := 57) hx hb hts in12 hown hK hP 0 rfl rfl 2 (by decide) (hts (.fieldLink RX12 133 "FactKeeperModel" "taped" "I") (by decide +kernel)) (fun _ h9 => h9) rfl dX12_four_22 ?_
  refine lv_iconst (v := 1) hx hb dX12_four_25 (by decide) ?_
  refine lv_iadd hx hb dX12_four_26 ?_
  refine lv_topi (fun z_20 ez_20 => ?_)
  obtain rfl : z_20 = 4 := ez_20.trans (by decide)
  refine va_put (D := (dC, dI)) (ci := 12) (v := .int 4) (ty := .int) (C := RX12) (T := TX12) (N := 57) hx hb hts in12 tyX12 tyX12_ok nmX12 hown hK hP hD hS 0 rfl rfl 2 (by decide) (hts (.fieldLink RX12 133 "FactKeeperModel" "taped" "I") (by decide +kernel)) (fun _ h9 => h9) rfl (by decide +kernel) rfl rfl (Nat.le_of_ble_eq_true rfl) dX12_four_27 (fun H locs hP hD hS => ?_)
  have hP : va_P (dC, dI) vwCl [(mo, .inr (12, [.int 0, .ref m1, .int 4, .ref m3, .ref m4, .ref m5, .ref m6, .ref m7, .ref m8, .ref m9, .int 0, .ref m11, .ref m12, .ref m13, .ref m14, .ref m15, .ref m16, .ref m17, .ref m18, .ref m19, .int 0, .int 0, .int 0, .int 0, .ref m24, .int 0, .ref m26, .int 0, .ref m28, .ref m29, .ref m30, .ref m31, .ref m32, .ref m33, .ref m34, .ref m35, .ref m36, .int 0, .int 0, .int 0, .int 0, .int 0, .int (-1), .int 0, .ref m44, .ref m45, .ref m46, .ref m47, .ref m48, .int 0, .ref m50, .ref m51, .ref m52, .ref m53, .ref m54, .int 0, .int 0])), (m1, .inl (k1, 400, .inl g_19))] H := hP
  have hD : va_D A [(mo, .inr (12, [.int 0, .ref m1, .int 4, .ref m3, .ref m4, .ref m5, .ref m6, .ref m7, .ref m8, .ref m9, .int 0, .ref m11, .ref m12, .ref m13, .ref m14, .ref m15, .ref m16, .ref m17, .ref m18, .ref m19, .int 0, .int 0, .int 0, .int 0, .ref m24, .int 0, .ref m26, .int 0, .ref m28, .ref m29, .ref m30, .ref m31, .ref m32, .ref m33, .ref m34, .ref m35, .ref m36, .int 0, .int 0, .int 0, .int 0, .int 0, .int (-1), .int 0, .ref m44, .ref m45, .ref m46, .ref m47, .ref m48, .int 0, .ref m50, .ref m51, .ref m52, .ref m53, .ref m54, .int 0, .int 0])), (m1, .inl (k1, 400, .inl g_19))] := hD
  refine lv_iinc (v := (-8)) (lv' := [(2, .int (-8)), (0, .ref mo), (1, .int fo)]) hx hb dX12_four_30 hl (k := 0) rfl (by decide) (by decide) rfl (fun ls hl => ?_)
  refine lv_goto (tgt := 3) hx hb dX12_four_33 (by decide) ?_
  refine lv_iload_n hx hb dX12_four_3 rfl (lv_at hl 0 rfl) ?_
  refine lv_if_lt (tgt := 36) hx hb dX12_four_4 (by decide) (fun _ => ?_) (fun c_21 => absurd c_21 (by decide))
  have hP9 := hP.sub (ws' := [(mo, .inr (12, [.int 0, .ref m1, .int 4, .ref m3, .ref m4, .ref m5, .ref m6, .ref m7, .ref m8, .ref m9, .int 0, .ref m11, .ref m12, .ref m13, .ref m14, .ref m15, .ref m16, .ref m17, .ref m18, .ref m19, .int 0, .int 0, .int 0, .int 0, .ref m24, .int 0, .ref m26, .int 0, .ref m28, .ref m29, .ref m30, .ref m31, .ref m32, .ref m33, .ref m34, .ref m35, .ref m36, .int 0, .int 0, .int 0, .int 0, .int 0, .int (-1), .int 0, .ref m44, .ref m45, .ref m46, .ref m47, .ref m48, .int 0, .ref m50, .ref m51, .ref m52, .ref m53, .ref m54, .int 0, .int 0])), (m1, .inl (k1, 400, .inl g_19))]) [0, 1] rfl
  have hD9 := hD.sub (ws' := [(mo, .inr (12, [.int 0, .ref m1, .int 4, .ref m3, .ref m4, .ref m5, .ref m6, .ref m7, .ref m8, .ref m9, .int 0, .ref m11, .ref m12, .ref m13, .ref m14, .ref m15, .ref m16, .ref m17, .ref m18, .ref m19, .int 0, .int 0, .int 0, .int 0, .ref m24, .int 0, .ref m26, .int 0, .ref m28, .ref m29, .ref m30, .ref m31, .ref m32, .ref m33, .ref m34, .ref m35, .ref m36, .int 0, .int 0, .int 0, .int 0, .int 0, .int (-1), .int 0, .ref m44, .ref m45, .ref m46, .ref m47, .ref m48, .int 0, .ref m50, .ref m51, .ref m52, .ref m53, .ref m54, .int 0, .int 0])), (m1, .inl (k1, 400, .inl g_19))]) [0, 1] (by decide) rfl
  have hK9 := hK.sub (tys' := [(k1, .byte)]) [0] rfl
  refine W.widen (k := 0) (n := 0) (Nat.le_of_ble_eq_true rfl) (Nat.le_of_ble_eq_true rfl) ?_
  exact (W.vret hx hb hr (fun t ht hW => ⟨⟨g_19, rfl, trivial, by rw [ht]; exact hP9, va_K.moved hW.alike hK9, hD9⟩, hS.F ht⟩) hS.2.2 dX12_four_36)

set_option maxHeartbeats 4000000 in
set_option maxRecDepth 100000 in
/-- four at 4 -/
theorem m_four4 (l : Launch) (hl0 : l.stackTraces = false) (dC : Nat → ClassId) (dI : Nat → Nat → Nat) (mo : Nat) (m1 : Nat) (m3 : Nat) (m4 : Nat) (m5 : Nat) (m6 : Nat) (m7 : Nat) (m8 : Nat) (m9 : Nat) (m11 : Nat) (m12 : Nat) (m13 : Nat) (m14 : Nat) (m15 : Nat) (m16 : Nat) (m17 : Nat) (m18 : Nat) (m19 : Nat) (m24 : Nat) (m26 : Nat) (m28 : Nat) (m29 : Nat) (m30 : Nat) (m31 : Nat) (m32 : Nat) (m33 : Nat) (m34 : Nat) (m35 : Nat) (m36 : Nat) (m44 : Nat) (m45 : Nat) (m46 : Nat) (m47 : Nat) (m48 : Nat) (m50 : Nat) (m51 : Nat) (m52 : Nat) (m53 : Nat) (m54 : Nat) (k1 : ClassId) (f : Nat → Int32) (fo : Int32) (sz : Nat)  : Met l yX12_four wsX12_four ({ frames := 0, cells := 0, slots := 0, locals := 0 } : Room) (va_Pc [.ref mo, .int fo] (ct_P (dC, dI) [(mo, .inr (12, [.int 0, .ref m1, .int 4, .ref m3, .ref m4, .ref m5, .ref m6, .ref m7, .ref m8, .ref m9, .int 0, .ref m11, .ref m12, .ref m13, .ref m14, .ref m15, .ref m16, .ref m17, .ref m18, .ref m19, .int 0, .int 0, .int 0, .int 0, .ref m24, .int 0, .ref m26, .int 0, .ref m28, .ref m29, .ref m30, .ref m31, .ref m32, .ref m33, .ref m34, .ref m35, .ref m36, .int 0, .int 0, .int 0, .int 0, .int 0, .int (-1), .int 0, .ref m44, .ref m45, .ref m46, .ref m47, .ref m48, .int 0, .ref m50, .ref m51, .ref m52, .ref m53, .ref m54, .int 0, .int 0])), (m1, .inl (k1, 400, .inl f))] [(k1, .byte)] sz)) (va_Qv (fun (u : (Nat → Int32)) => True) (fun (u : (Nat → Int32)) => ct_B (dC, dI) (va_A [(mo, .inr (12, [.int 0, .ref m1, .int 4, .ref m3, .ref m4, .ref m5, .ref m6, .ref m7, .ref m8, .ref m9, .int 0, .ref m11, .ref m12, .ref m13, .ref m14, .ref m15, .ref m16, .ref m17, .ref m18, .ref m19, .int 0, .int 0, .int 0, .int 0, .ref m24, .int 0, .ref m26, .int 0, .ref m28, .ref m29, .ref m30, .ref m31, .ref m32, .ref m33, .ref m34, .ref m35, .ref m36, .int 0, .int 0, .int 0, .int 0, .int 0, .int (-1), .int 0, .ref m44, .ref m45, .ref m46, .ref m47, .ref m48, .int 0, .ref m50, .ref m51, .ref m52, .ref m53, .ref m54, .int 0, .int 0])), (m1, .inl (k1, 400, .inl f))] sz) [(mo, .inr (12, [.int 0, .ref m1, .int 8, .ref m3, .ref m4, .ref m5, .ref m6, .ref m7, .ref m8, .ref m9, .int 0, .ref m11, .ref m12, .ref m13, .ref m14, .ref m15, .ref m16, .ref m17, .ref m18, .ref m19, .int 0, .int 0, .int 0, .int 0, .ref m24, .int 0, .ref m26, .int 0, .ref m28, .ref m29, .ref m30, .ref m31, .ref m32, .ref m33, .ref m34, .ref m35, .ref m36, .int 0, .int 0, .int 0, .int 0, .int 0, .int (-1), .int 0, .ref m44, .ref m45, .ref m46, .ref m47, .ref m48, .int 0, .ref m50, .ref m51, .ref m52, .ref m53, .ref m54, .int 0, .int 0])), (m1, .inl (k1, 400, .inl u))] [(k1, .byte)]) (va_A [(mo, .inr (12, [.int 0, .ref m1, .int 4, .ref m3, .ref m4, .ref m5, .ref m6, .ref m7, .ref m8, .ref m9, .int 0, .ref m11, .ref m12, .ref m13, .ref m14, .ref m15, .ref m16, .ref m17, .ref m18, .ref m19, .int 0, .int 0, .int 0, .int 0, .ref m24, .int 0, .ref m26, .int 0, .ref m28, .ref m29, .ref m30, .ref m31, .ref m32, .ref m33, .ref m34, .ref m35, .ref m36, .int 0, .int 0, .int 0, .int 0, .int 0, .int (-1), .int 0, .ref m44, .ref m45, .ref m46, .ref m47, .ref m48, .int 0, .ref m50, .ref m51, .ref m52, .ref m53, .ref m54, .int 0, .int 0])), (m1, .inl (k1, 400, .inl f))] sz)) 0 0 (va_A [(mo, .inr (12, [.int 0, .ref m1, .int 4, .ref m3, .ref m4, .ref m5, .ref m6, .ref m7, .ref m8, .ref m9, .int 0, .ref m11, .ref m12, .ref m13, .ref m14, .ref m15, .ref m16, .ref m17, .ref m18, .ref m19, .int 0, .int 0, .int 0, .int 0, .ref m24, .int 0, .ref m26, .int 0, .ref m28, .ref m29, .ref m30, .ref m31, .ref m32, .ref m33, .ref m34, .ref m35, .ref m36, .int 0, .int 0, .int 0, .int 0, .int 0, .int (-1), .int 0, .ref m44, .ref m45, .ref m46, .ref m47, .ref m48, .int 0, .ref m50, .ref m51, .ref m52, .ref m53, .ref m54, .int 0, .int 0])), (m1, .inl (k1, 400, .inl f))] sz) := by
  refine Met.ofW (cc := cX12_four) (maxL := 3) (ret := none) (by decide) rfl ?_
  intro p e s m args below meth c s₁ B hml hv
  obtain ⟨rfl, hsz, hP, hK, hD0, hZ⟩ := hv
  have hx := B.exec
  have hb := B.bytes
  have hr := B.returns
  have hts := atoms_spec (ws := wsX12_four) B.pre
  have hown : s.vm.findClass RX12 = some m.cls := findClass_of_methodNamed B.named
  have hlocks := B.notSynchronized
  have in12 : ∀ w ∈ u_ws RX12 TX12 57, w ∈ wsX12_four := fun w h => (List.mem_cons_of_mem _ (List.mem_append_right _ h))
  subst hsz
  have hD := hD0.self (sz := s.heap.size)
  generalize hAe : va_A [(mo, .inr (12, [.int 0, .ref m1, .int 4, .ref m3, .ref m4, .ref m5, .ref m6, .ref m7, .ref m8, .ref m9, .int 0, .ref m11, .ref m12, .ref m13, .ref m14, .ref m15, .ref m16, .ref m17, .ref m18, .ref m19, .int 0, .int 0, .int 0, .int 0, .ref m24, .int 0, .ref m26, .int 0, .ref m28, .ref m29, .ref m30, .ref m31, .ref m32, .ref m33, .ref m34, .ref m35, .ref m36, .int 0, .int 0, .int 0, .int 0, .int 0, .int (-1), .int 0, .ref m44, .ref m45, .ref m46, .ref m47, .ref m48, .int 0, .ref m50, .ref m51, .ref m52, .ref m53, .ref m54, .int 0, .int 0])), (m1, .inl (k1, 400, .inl f))] s.heap.size = A at hD hZ ⊢
  have hA : ∀ q : Nat, s.heap.size ≤ q → A q := fun q h => by rw [← hAe]; exact Or.inr h
  have hS : va_S A s.heap s.heap [] := va_S.rf
  have hP : va_P (dC, dI) vwCl [(mo, .inr (12, [.int 0, .ref m1, .int 4, .ref m3, .ref m4, .ref m5, .ref m6, .ref m7, .ref m8, .ref m9, .int 0, .ref m11, .ref m12, .ref m13, .ref m14, .ref m15, .ref m16, .ref m17, .ref m18, .ref m19, .int 0, .int 0, .int 0, .int 0, .ref m24, .int 0, .ref m26, .int 0, .ref m28, .ref m29, .ref m30, .ref m31, .ref m32, .ref m33, .ref m34, .ref m35, .ref m36, .int 0, .int 0, .int 0, .int 0, .int 0, .int (-1), .int 0, .ref m44, .ref m45, .ref m46, .ref m47, .ref m48, .int 0, .ref m50, .ref m51, .ref m52, .ref m53, .ref m54, .int 0, .int 0])), (m1, .inl (k1, 400, .inl f))] s.heap := hP
  have hK : va_K (dC, dI) vwCl [(k1, .byte)] s := hK
  have hD : va_D A [(mo, .inr (12, [.int 0, .ref m1, .int 4, .ref m3, .ref m4, .ref m5, .ref m6, .ref m7, .ref m8, .ref m9, .int 0, .ref m11, .ref m12, .ref m13, .ref m14, .ref m15, .ref m16, .ref m17, .ref m18, .ref m19, .int 0, .int 0, .int 0, .int 0, .ref m24, .int 0, .ref m26, .int 0, .ref m28, .ref m29, .ref m30, .ref m31, .ref m32, .ref m33, .ref m34, .ref m35, .ref m36, .int 0, .int 0, .int 0, .int 0, .int 0, .int (-1), .int 0, .ref m44, .ref m45, .ref m46, .ref m47, .ref m48, .int 0, .ref m50, .ref m51, .ref m52, .ref m53, .ref m54, .int 0, .int 0])), (m1, .inl (k1, 400, .inl f))] := hD
  have hl := lv_entry ([.ref mo, .int fo]) (n := 3) (Nat.le_of_ble_eq_true rfl)
  rw [lg_entry_eq]
  generalize (lg_sl ([.ref mo, .int fo]) ++ List.replicate (3 - (lg_sl ([.ref mo, .int fo])).length) Slot.unset).toArray = ls at hl ⊢
  have hl : lv_has ls 3 [(0, .ref mo), (1, .int fo)] := hl
  refine lv_bipush (v := 24) hx hb dX12_four_0 (by decide) ?_
  refine lv_istore_n (lv' := [(2, .int 24), (0, .ref mo), (1, .int fo)]) hx hb dX12_four_2 rfl hl (by decide) rfl (fun ls hl => ?_)
  refine lv_iload_n hx hb dX12_four_3 rfl (lv_at hl 0 rfl) ?_
  refine lv_if_lt (tgt := 36) hx hb dX12_four_4 (by decide) (fun c_1 => absurd c_1 (by decide)) (fun _ => ?_)
  refine lv_aload_n hx hb dX12_four_7 rfl (lv_at hl 1 rfl) ?_
  refine va_get (D := (dC, dI)) (ci := 12) (v := .ref m1) (C := RX12) (T := TX12) (N := 57) hx hb hts in12 hown hK hP 0 rfl rfl 1 (by decide) (hts (.fieldLink RX12 13 "FactKeeperModel" "tape" "[B") (by decide +kernel)) (fun _ h9 => h9) rfl dX12_four_8 ?_
  refine lv_aload_n hx hb dX12_four_11 rfl (lv_at hl 1 rfl) ?_
  refine va_get (D := (dC, dI)) (ci := 12) (v := .int 4) (C := RX12) (T := TX12) (N := 57) hx hb hts in12 hown hK hP 0 rfl rfl 2 (by decide) (hts (.fieldLink RX12 133 "FactKeeperModel" "taped" "I") (by decide +kernel)) (fun _ h9 => h9) rfl dX12_four_12 ?_
  refine lv_iload_n hx hb dX12_four_15 rfl (lv_at hl 2 rfl) ?_
  refine lv_iload_n hx hb dX12_four_16 rfl (lv_at hl 0 rfl) ?_
  refine lv_ishr hx hb dX12_four_17 ?_
  refine lv_topi (fun z_2 ez_2 => ?_)
  obtain ⟨z_3, ez_3⟩ : ∃ y : Int32, y = (z_2 : Int32).toInt8.toInt32 := ⟨_, rfl⟩
  refine lv_i2b (v := z_3) hx hb dX12_four_18 ez_3.symm ?_
  refine va_bast hx hb hK hP hD hS 1 0 rfl rfl (by unfold vp_in; decide) dX12_four_19 (fun H locs hP hD hS => ?_)
  have hP : va_P (dC, dI) vwCl [(mo, .inr (12, [.int 0, .ref m1, .int 4, .ref m3, .ref m4, .ref m5, .ref m6, .ref m7, .ref m8, .ref m9, .int 0, .ref m11, .ref m12, .ref m13, .ref m14, .ref m15, .ref m16, .ref m17, .ref m18, .ref m19, .int 0, .int 0, .int 0, .int 0, .ref m24, .int 0, .ref m26, .int 0, .ref m28, .ref m29, .ref m30, .ref m31, .ref m32, .ref m33, .ref m34, .ref m35, .ref m36, .int 0, .int 0, .int 0, .int 0, .int 0, .int (-1), .int 0, .ref m44, .ref m45, .ref m46, .ref m47, .ref m48, .int 0, .ref m50, .ref m51, .ref m52, .ref m53, .ref m54, .int 0, .int 0])), (m1, .inl (k1, 400, .inl (upd f (4 : Int32).toNatClampNeg (vp_nar .byte z_3))))] H := hP
  have hD : va_D A [(mo, .inr (12, [.int 0, .ref m1, .int 4, .ref m3, .ref m4, .ref m5, .ref m6, .ref m7, .ref m8, .ref m9, .int 0, .ref m11, .ref m12, .ref m13, .ref m14, .ref m15, .ref m16, .ref m17, .ref m18, .ref m19, .int 0, .int 0, .int 0, .int 0, .ref m24, .int 0, .ref m26, .int 0, .ref m28, .ref m29, .ref m30, .ref m31, .ref m32, .ref m33, .ref m34, .ref m35, .ref m36, .int 0, .int 0, .int 0, .int 0, .int 0, .int (-1), .int 0, .ref m44, .ref m45, .ref m46, .ref m47, .ref m48, .int 0, .ref m50, .ref m51, .ref m52, .ref m53, .ref m54, .int 0, .int 0])), (m1, .inl (k1, 400, .inl (upd f (4 : Int32).toNatClampNeg (vp_nar .byte z_3))))] := hD
  obtain ⟨g_4, eg_4⟩ : ∃ g : Nat → Int32, g = (upd f (4 : Int32).toNatClampNeg (vp_nar .byte z_3)) := ⟨_, rfl⟩
  rw [← eg_4] at hP hD
  have hP : va_P (dC, dI) vwCl [(mo, .inr (12, [.int 0, .ref m1, .int 4, .ref m3, .ref m4, .ref m5, .ref m6, .ref m7, .ref m8, .ref m9, .int 0, .ref m11, .ref m12, .ref m13, .ref m14, .ref m15, .ref m16, .ref m17, .ref m18, .ref m19, .int 0, .int 0, .int 0, .int 0, .ref m24, .int 0, .ref m26, .int 0, .ref m28, .ref m29, .ref m30, .ref m31, .ref m32, .ref m33, .ref m34, .ref m35, .ref m36, .int 0, .int 0, .int 0, .int 0, .int 0, .int (-1), .int 0, .ref m44, .ref m45, .ref m46, .ref m47, .ref m48, .int 0, .ref m50, .ref m51, .ref m52, .ref m53, .ref m54, .int 0, .int 0])), (m1, .inl (k1, 400, .inl g_4))] H := hP
  have hD : va_D A [(mo, .inr (12, [.int 0, .ref m1, .int 4, .ref m3, .ref m4, .ref m5, .ref m6, .ref m7, .ref m8, .ref m9, .int 0, .ref m11, .ref m12, .ref m13, .ref m14, .ref m15, .ref m16, .ref m17, .ref m18, .ref m19, .int 0, .int 0, .int 0, .int 0, .ref m24, .int 0, .ref m26, .int 0, .ref m28, .ref m29, .ref m30, .ref m31, .ref m32, .ref m33, .ref m34, .ref m35, .ref m36, .int 0, .int 0, .int 0, .int 0, .int 0, .int (-1), .int 0, .ref m44, .ref m45, .ref m46, .ref m47, .ref m48, .int 0, .ref m50, .ref m51, .ref m52, .ref m53, .ref m54, .int 0, .int 0])), (m1, .inl (k1, 400, .inl g_4))] := hD
  refine lv_aload_n hx hb dX12_four_20 rfl (lv_at hl 1 rfl) ?_
  refine lv_dup hx hb dX12_four_21 rfl ?_
  refine va_get (D := (dC, dI)) (ci := 12) (v := .int 4) (C := RX12) (T := TX12) (N := 57) hx hb hts in12 hown hK hP 0 rfl rfl 2 (by decide) (hts (.fieldLink RX12 133 "FactKeeperModel" "taped" "I") (by decide +kernel)) (fun _ h9 => h9) rfl dX12_four_22 ?_
  refine lv_iconst (v := 1) hx hb dX12_four_25 (by decide) ?_
  refine lv_iadd hx hb dX12_four_26 ?_
  refine lv_topi (fun z_5 ez_5 => ?_)
  obtain rfl : z_5 = 5 := ez_5.trans (by decide)
  refine va_put (D := (dC, dI)) (ci := 12) (v := .int 5) (ty := .int) (C := RX12) (T := TX12) (N := 57) hx hb hts in12 tyX12 tyX12_ok nmX12 hown hK hP hD hS 0 rfl rfl 2 (by decide) (hts (.fieldLink RX12 133 "FactKeeperModel" "taped" "I") (by decide +kernel)) (fun _ h9 => h9) rfl (by decide +kernel) rfl rfl (Nat.le_of_ble_eq_true rfl) dX12_four_27 (fun H locs hP hD hS => ?_)
  have hP : va_P (dC, dI) vwCl [(mo, .inr (12, [.int 0, .ref m1, .int 5, .ref m3, .ref m4, .ref m5, .ref m6, .ref m7, .ref m8, .ref m9, .int 0, .ref m11, .ref m12, .ref m13, .ref m14, .ref m15, .ref m16, .ref m17, .ref m18, .ref m19, .int 0, .int 0, .int 0, .int 0, .ref m24, .int 0, .ref m26, .int 0, .ref m28, .ref m29, .ref m30, .ref m31, .ref m32, .ref m33, .ref m34, .ref m35, .ref m36, .int 0, .int 0, .int 0, .int 0, .int 0, .int (-1), .int 0, .ref m44, .ref m45, .ref m46, .ref m47, .ref m48, .int 0, .ref m50, .ref m51, .ref m52, .ref m53, .ref m54, .int 0, .int 0])), (m1, .inl (k1, 400, .inl g_4))] H := hP
  have hD : va_D A [(mo, .inr (12, [.int 0, .ref m1, .int 5, .ref m3, .ref m4, .ref m5, .ref m6, .ref m7, .ref m8, .ref m9, .int 0, .ref m11, .ref m12, .ref m13, .ref m14, .ref m15, .ref m16, .ref m17, .ref m18, .ref m19, .int 0, .int 0, .int 0, .int 0, .ref m24, .int 0, .ref m26, .int 0, .ref m28, .ref m29, .ref m30, .ref m31, .ref m32, .ref m33, .ref m34, .ref m35, .ref m36, .int 0, .int 0, .int 0, .int 0, .int 0, .int (-1), .int 0, .ref m44, .ref m45, .ref m46, .ref m47, .ref m48, .int 0, .ref m50, .ref m51, .ref m52, .ref m53, .ref m54, .int 0, .int 0])), (m1, .inl (k1, 400, .inl g_4))] := hD
  refine lv_iinc (v := 16) (lv' := [(2, .int 16), (0, .ref mo), (1, .int fo)]) hx hb dX12_four_30 hl (k := 0) rfl (by decide) (by decide) rfl (fun ls hl => ?_)
  refine lv_goto (tgt := 3) hx hb dX12_four_33 (by decide) ?_
  refine lv_iload_n hx hb dX12_four_3 rfl (lv_at hl 0 rfl) ?_
  refine lv_if_lt (tgt := 36) hx hb dX12_four_4 (by decide) (fun c_6 => absurd c_6 (by decide)) (fun _ => ?_)
  refine lv_aload_n hx hb dX12_four_7 rfl (lv_at hl 1 rfl) ?_
  refine va_get (D := (dC, dI)) (ci := 12) (v := .ref m1) (C := RX12) (T := TX12) (N := 57) hx hb hts in12 hown hK hP 0 rfl rfl 1 (by decide) (hts (.fieldLink RX12 13 "FactKeeperModel" "tape" "[B") (by decide +kernel)) (fun _ h9 => h9) rfl dX12_four_8 ?_
  refine lv_aload_n hx hb dX12_four_11 rfl (lv_at hl 1 rfl) ?_
  refine va_get (D := (dC, dI)) (ci := 12) (v := .int 5) (C := RX12) (T := TX12) (N := 57) hx hb hts in12 hown hK hP 0 rfl rfl 2 (by decide) (hts (.fieldLink RX12 133 "FactKeeperModel" "taped" "I") (by decide +kernel)) (fun _ h9 => h9) rfl dX12_four_12 ?_
  refine lv_iload_n hx hb dX12_four_15 rfl (lv_at hl 2 rfl) ?_
  refine lv_iload_n hx hb dX12_four_16 rfl (lv_at hl 0 rfl) ?_
  refine lv_ishr hx hb dX12_four_17 ?_
  refine lv_topi (fun z_7 ez_7 => ?_)
  obtain ⟨z_8, ez_8⟩ : ∃ y : Int32, y = (z_7 : Int32).toInt8.toInt32 := ⟨_, rfl⟩
  refine lv_i2b (v := z_8) hx hb dX12_four_18 ez_8.symm ?_
  refine va_bast hx hb hK hP hD hS 1 0 rfl rfl (by unfold vp_in; decide) dX12_four_19 (fun H locs hP hD hS => ?_)
  have hP : va_P (dC, dI) vwCl [(mo, .inr (12, [.int 0, .ref m1, .int 5, .ref m3, .ref m4, .ref m5, .ref m6, .ref m7, .ref m8, .ref m9, .int 0, .ref m11, .ref m12, .ref m13, .ref m14, .ref m15, .ref m16, .ref m17, .ref m18, .ref m19, .int 0, .int 0, .int 0, .int 0, .ref m24, .int 0, .ref m26, .int 0, .ref m28, .ref m29, .ref m30, .ref m31, .ref m32, .ref m33, .ref m34, .ref m35, .ref m36, .int 0, .int 0, .int 0, .int 0, .int 0, .int (-1), .int 0, .ref m44, .ref m45, .ref m46, .ref m47, .ref m48, .int 0, .ref m50, .ref m51, .ref m52, .ref m53, .ref m54, .int 0, .int 0])), (m1, .inl (k1, 400, .inl (upd g_4 (5 : Int32).toNatClampNeg (vp_nar .byte z_8))))] H := hP
  have hD : va_D A [(mo, .inr (12, [.int 0, .ref m1, .int 5, .ref m3, .ref m4, .ref m5, .ref m6, .ref m7, .ref m8, .ref m9, .int 0, .ref m11, .ref m12, .ref m13, .ref m14, .ref m15, .ref m16, .ref m17, .ref m18, .ref m19, .int 0, .int 0, .int 0, .int 0, .ref m24, .int 0, .ref m26, .int 0, .ref m28, .ref m29, .ref m30, .ref m31, .ref m32, .ref m33, .ref m34, .ref m35, .ref m36, .int 0, .int 0, .int 0, .int 0, .int 0, .int (-1), .int 0, .ref m44, .ref m45, .ref m46, .ref m47, .ref m48, .int 0, .ref m50, .ref m51, .ref m52, .ref m53, .ref m54, .int 0, .int 0])), (m1, .inl (k1, 400, .inl (upd g_4 (5 : Int32).toNatClampNeg (vp_nar .byte z_8))))] := hD
  obtain ⟨g_9, eg_9⟩ : ∃ g : Nat → Int32, g = (upd g_4 (5 : Int32).toNatClampNeg (vp_nar .byte z_8)) := ⟨_, rfl⟩
  rw [← eg_9] at hP hD
  have hP : va_P (dC, dI) vwCl [(mo, .inr (12, [.int 0, .ref m1, .int 5, .ref m3, .ref m4, .ref m5, .ref m6, .ref m7, .ref m8, .ref m9, .int 0, .ref m11, .ref m12, .ref m13, .ref m14, .ref m15, .ref m16, .ref m17, .ref m18, .ref m19, .int 0, .int 0, .int 0, .int 0, .ref m24, .int 0, .ref m26, .int 0, .ref m28, .ref m29, .ref m30, .ref m31, .ref m32, .ref m33, .ref m34, .ref m35, .ref m36, .int 0, .int 0, .int 0, .int 0, .int 0, .int (-1), .int 0, .ref m44, .ref m45, .ref m46, .ref m47, .ref m48, .int 0, .ref m50, .ref m51, .ref m52, .ref m53, .ref m54, .int 0, .int 0])), (m1, .inl (k1, 400, .inl g_9))] H := hP
  have hD : va_D A [(mo, .inr (12, [.int 0, .ref m1, .int 5, .ref m3, .ref m4, .ref m5, .ref m6, .ref m7, .ref m8, .ref m9, .int 0, .ref m11, .ref m12, .ref m13, .ref m14, .ref m15, .ref m16, .ref m17, .ref m18, .ref m19, .int 0, .int 0, .int 0, .int 0, .ref m24, .int 0, .ref m26, .int 0, .ref m28, .ref m29, .ref m30, .ref m31, .ref m32, .ref m33, .ref m34, .ref m35, .ref m36, .int 0, .int 0, .int 0, .int 0, .int 0, .int (-1), .int 0, .ref m44, .ref m45, .ref m46, .ref m47, .ref m48, .int 0, .ref m50, .ref m51, .ref m52, .ref m53, .ref m54, .int 0, .int 0])), (m1, .inl (k1, 400, .inl g_9))] := hD
  refine lv_aload_n hx hb dX12_four_20 rfl (lv_at hl 1 rfl) ?_
  refine lv_dup hx hb dX12_four_21 rfl ?_
  refine va_get (D := (dC, dI)) (ci := 12) (v := .int 5) (C := RX12) (T := TX12) (N := 57) hx hb hts in12 hown hK hP 0 rfl rfl 2 (by decide) (hts (.fieldLink RX12 133 "FactKeeperModel" "taped" "I") (by decide +kernel)) (fun _ h9 => h9) rfl dX12_four_22 ?_
  refine lv_iconst (v := 1) hx hb dX12_four_25 (by decide) ?_
  refine lv_iadd hx hb dX12_four_26 ?_
  refine lv_topi (fun z_10 ez_10 => ?_)
  obtain rfl : z_10 = 6 := ez_10.trans (by decide)
  refine va_put (D := (dC, dI)) (ci := 12) (v := .int 6) (ty := .int) (C := RX12) (T := TX12) (N := 57) hx hb hts in12 tyX12 tyX12_ok nmX12 hown hK hP hD hS 0 rfl rfl 2 (by decide) (hts (.fieldLink RX12 133 "FactKeeperModel" "taped" "I") (by decide +kernel)) (fun _ h9 => h9) rfl (by decide +kernel) rfl rfl (Nat.le_of_ble_eq_true rfl) dX12_four_27 (fun H locs hP hD hS => ?_)
  have hP : va_P (dC, dI) vwCl [(mo, .inr (12, [.int 0, .ref m1, .int 6, .ref m3, .ref m4, .ref m5, .ref m6, .ref m7, .ref m8, .ref m9, .int 0, .ref m11, .ref m12, .ref m13, .ref m14, .ref m15, .ref m16, .ref m17, .ref m18, .ref m19, .int 0, .int 0, .int 0, .int 0, .ref m24, .int 0, .ref m26, .int 0, .ref m28, .ref m29, .ref m30, .ref m31, .ref m32, .ref m33, .ref m34, .ref m35, .ref m36, .int 0, .int 0, .int 0, .int 0, .int 0, .int (-1), .int 0, .ref m44, .ref m45, .ref m46, .ref m47, .ref m48, .int 0, .ref m50, .ref m51, .ref m52, .ref m53, .ref m54, .int 0, .int 0])), (m1, .inl (k1, 400, .inl g_9))] H := hP
  have hD : va_D A [(mo, .inr (12, [.int 0, .ref m1, .int 6, .ref m3, .ref m4, .ref m5, .ref m6, .ref m7, .ref m8, .ref m9, .int 0, .ref m11, .ref m12, .ref m13, .ref m14, .ref m15, .ref m16, .ref m17, .ref m18, .ref m19, .int 0, .int 0, .int 0, .int 0, .ref m24, .int 0, .ref m26, .int 0, .ref m28, .ref m29, .ref m30, .ref m31, .ref m32, .ref m33, .ref m34, .ref m35, .ref m36, .int 0, .int 0, .int 0, .int 0, .int 0, .int (-1), .int 0, .ref m44, .ref m45, .ref m46, .ref m47, .ref m48, .int 0, .ref m50, .ref m51, .ref m52, .ref m53, .ref m54, .int 0, .int 0])), (m1, .inl (k1, 400, .inl g_9))] := hD
  refine lv_iinc (v := 8) (lv' := [(2, .int 8), (0, .ref mo), (1, .int fo)]) hx hb dX12_four_30 hl (k := 0) rfl (by decide) (by decide) rfl (fun ls hl => ?_)
  refine lv_goto (tgt := 3) hx hb dX12_four_33 (by decide) ?_
  refine lv_iload_n hx hb dX12_four_3 rfl (lv_at hl 0 rfl) ?_
  refine lv_if_lt (tgt := 36) hx hb dX12_four_4 (by decide) (fun c_11 => absurd c_11 (by decide)) (fun _ => ?_)
  refine lv_aload_n hx hb dX12_four_7 rfl (lv_at hl 1 rfl) ?_
  refine va_get (D := (dC, dI)) (ci := 12) (v := .ref m1) (C := RX12) (T := TX12) (N := 57) hx hb hts in12 hown hK hP 0 rfl rfl 1 (by decide) (hts (.fieldLink RX12 13 "FactKeeperModel" "tape" "[B") (by decide +kernel)) (fun _ h9 => h9) rfl dX12_four_8 ?_
  refine lv_aload_n hx hb dX12_four_11 rfl (lv_at hl 1 rfl) ?_
  refine va_get (D := (dC, dI)) (ci := 12) (v := .int 6) (C := RX12) (T := TX12) (N := 57) hx hb hts in12 hown hK hP 0 rfl rfl 2 (by decide) (hts (.fieldLink RX12 133 "FactKeeperModel" "taped" "I") (by decide +kernel)) (fun _ h9 => h9) rfl dX12_four_12 ?_
  refine lv_iload_n hx hb dX12_four_15 rfl (lv_at hl 2 rfl) ?_
  refine lv_iload_n hx hb dX12_four_16 rfl (lv_at hl 0 rfl) ?_
  refine lv_ishr hx hb dX12_four_17 ?_
  refine lv_topi (fun z_12 ez_12 => ?_)
  obtain ⟨z_13, ez_13⟩ : ∃ y : Int32, y = (z_12 : Int32).toInt8.toInt32 := ⟨_, rfl⟩
  refine lv_i2b (v := z_13) hx hb dX12_four_18 ez_13.symm ?_
  refine va_bast hx hb hK hP hD hS 1 0 rfl rfl (by unfold vp_in; decide) dX12_four_19 (fun H locs hP hD hS => ?_)
  have hP : va_P (dC, dI) vwCl [(mo, .inr (12, [.int 0, .ref m1, .int 6, .ref m3, .ref m4, .ref m5, .ref m6, .ref m7, .ref m8, .ref m9, .int 0, .ref m11, .ref m12, .ref m13, .ref m14, .ref m15, .ref m16, .ref m17, .ref m18, .ref m19, .int 0, .int 0, .int 0, .int 0, .ref m24, .int 0, .ref m26, .int 0, .ref m28, .ref m29, .ref m30, .ref m31, .ref m32, .ref m33, .ref m34, .ref m35, .ref m36, .int 0, .int 0, .int 0, .int 0, .int 0, .int (-1), .int 0, .ref m44, .ref m45, .ref m46, .ref m47, .ref m48, .int 0, .ref m50, .ref m51, .ref m52, .ref m53, .ref m54, .int 0, .int 0])), (m1, .inl (k1, 400, .inl (upd g_9 (6 : Int32).toNatClampNeg (vp_nar .byte z_13))))] H := hP
  have hD : va_D A [(mo, .inr (12, [.int 0, .ref m1, .int 6, .ref m3, .ref m4, .ref m5, .ref m6, .ref m7, .ref m8, .ref m9, .int 0, .ref m11, .ref m12, .ref m13, .ref m14, .ref m15, .ref m16, .ref m17, .ref m18, .ref m19, .int 0, .int 0, .int 0, .int 0, .ref m24, .int 0, .ref m26, .int 0, .ref m28, .ref m29, .ref m30, .ref m31, .ref m32, .ref m33, .ref m34, .ref m35, .ref m36, .int 0, .int 0, .int 0, .int 0, .int 0, .int (-1), .int 0, .ref m44, .ref m45, .ref m46, .ref m47, .ref m48, .int 0, .ref m50, .ref m51, .ref m52, .ref m53, .ref m54, .int 0, .int 0])), (m1, .inl (k1, 400, .inl (upd g_9 (6 : Int32).toNatClampNeg (vp_nar .byte z_13))))] := hD
  obtain ⟨g_14, eg_14⟩ : ∃ g : Nat → Int32, g = (upd g_9 (6 : Int32).toNatClampNeg (vp_nar .byte z_13)) := ⟨_, rfl⟩
  rw [← eg_14] at hP hD
  have hP : va_P (dC, dI) vwCl [(mo, .inr (12, [.int 0, .ref m1, .int 6, .ref m3, .ref m4, .ref m5, .ref m6, .ref m7, .ref m8, .ref m9, .int 0, .ref m11, .ref m12, .ref m13, .ref m14, .ref m15, .ref m16, .ref m17, .ref m18, .ref m19, .int 0, .int 0, .int 0, .int 0, .ref m24, .int 0, .ref m26, .int 0, .ref m28, .ref m29, .ref m30, .ref m31, .ref m32, .ref m33, .ref m34, .ref m35, .ref m36, .int 0, .int 0, .int 0, .int 0, .int 0, .int (-1), .int 0, .ref m44, .ref m45, .ref m46, .ref m47, .ref m48, .int 0, .ref m50, .ref m51, .ref m52, .ref m53, .ref m54, .int 0, .int 0])), (m1, .inl (k1, 400, .inl g_14))] H := hP
  have hD : va_D A [(mo, .inr (12, [.int 0, .ref m1, .int 6, .ref m3, .ref m4, .ref m5, .ref m6, .ref m7, .ref m8, .ref m9, .int 0, .ref m11, .ref m12, .ref m13, .ref m14, .ref m15, .ref m16, .ref m17, .ref m18, .ref m19, .int 0, .int 0, .int 0, .int 0, .ref m24, .int 0, .ref m26, .int 0, .ref m28, .ref m29, .ref m30, .ref m31, .ref m32, .ref m33, .ref m34, .ref m35, .ref m36, .int 0, .int 0, .int 0, .int 0, .int 0, .int (-1), .int 0, .ref m44, .ref m45, .ref m46, .ref m47, .ref m48, .int 0, .ref m50, .ref m51, .ref m52, .ref m53, .ref m54, .int 0, .int 0])), (m1, .inl (k1, 400, .inl g_14))] := hD
  refine lv_aload_n hx hb dX12_four_20 rfl (lv_at hl 1 rfl) ?_
  refine lv_dup hx hb dX12_four_21 rfl ?_
  refine va_get (D := (dC, dI)) (ci := 12) (v := .int 6) (C := RX12) (T := TX12) (N := 57) hx hb hts in12 hown hK hP 0 rfl rfl 2 (by decide) (hts (.fieldLink RX12 133 "FactKeeperModel" "taped" "I") (by decide +kernel)) (fun _ h9 => h9) rfl dX12_four_22 ?_
  refine lv_iconst (v := 1) hx hb dX12_four_25 (by decide) ?_
  refine lv_iadd hx hb dX12_four_26 ?_
  refine lv_topi (fun z_15 ez_15 => ?_)
  obtain rfl : z_15 = 7 := ez_15.trans (by decide)
  refine va_put (D := (dC, dI)) (ci := 12) (v := .int 7) (ty := .int) (C := RX12) (T := TX12) (N := 57) hx hb hts in12 tyX12 tyX12_ok nmX12 hown hK hP hD hS 0 rfl rfl 2 (by decide) (hts (.fieldLink RX12 133 "FactKeeperModel" "taped" "I") (by decide +kernel)) (fun _ h9 => h9) rfl (by decide +kernel) rfl rfl (Nat.le_of_ble_eq_true rfl) dX12_four_27 (fun H locs hP hD hS => ?_)
  have hP : va_P (dC, dI) vwCl [(mo, .inr (12, [.int 0, .ref m1, .int 7, .ref m3, .ref m4, .ref m5, .ref m6, .ref m7, .ref m8, .ref m9, .int 0, .ref m11, .ref m12, .ref m13, .ref m14, .ref m15, .ref m16, .ref m17, .ref m18, .ref m19, .int 0, .int 0, .int 0, .int 0, .ref m24, .int 0, .ref m26, .int 0, .ref m28, .ref m29, .ref m30, .ref m31, .ref m32, .ref m33, .ref m34, .ref m35, .ref m36, .int 0, .int 0, .int 0, .int 0, .int 0, .int (-1), .int 0, .ref m44, .ref m45, .ref m46, .ref m47, .ref m48, .int 0, .ref m50, .ref m51, .ref m52, .ref m53, .ref m54, .int 0, .int 0])), (m1, .inl (k1, 400, .inl g_14))] H := hP
  have hD : va_D A [(mo, .inr (12, [.int 0, .ref m1, .int 7, .ref m3, .ref m4, .ref m5, .ref m6, .ref m7, .ref m8, .ref m9, .int 0, .ref m11, .ref m12, .ref m13, .ref m14, .ref m15, .ref m16, .ref m17, .ref m18, .ref m19, .int 0, .int 0, .int 0, .int 0, .ref m24, .int 0, .ref m26, .int 0, .ref m28, .ref m29, .ref m30, .ref m31, .ref m32, .ref m33, .ref m34, .ref m35, .ref m36, .int 0, .int 0, .int 0, .int 0, .int 0, .int (-1), .int 0, .ref m44, .ref m45, .ref m46, .ref m47, .ref m48, .int 0, .ref m50, .ref m51, .ref m52, .ref m53, .ref m54, .int 0, .int 0])), (m1, .inl (k1, 400, .inl g_14))] := hD
  refine lv_iinc (v := 0) (lv' := [(2, .int 0), (0, .ref mo), (1, .int fo)]) hx hb dX12_four_30 hl (k := 0) rfl (by decide) (by decide) rfl (fun ls hl => ?_)
  refine lv_goto (tgt := 3) hx hb dX12_four_33 (by decide) ?_
  refine lv_iload_n hx hb dX12_four_3 rfl (lv_at hl 0 rfl) ?_
  refine lv_if_lt (tgt := 36) hx hb dX12_four_4 (by decide) (fun c_16 => absurd c_16 (by decide)) (fun _ => ?_)
  refine lv_aload_n hx hb dX12_four_7 rfl (lv_at hl 1 rfl) ?_
  refine va_get (D := (dC, dI)) (ci := 12) (v := .ref m1) (C := RX12) (T := TX12) (N := 57) hx hb hts in12 hown hK hP 0 rfl rfl 1 (by decide) (hts (.fieldLink RX12 13 "FactKeeperModel" "tape" "[B") (by decide +kernel)) (fun _ h9 => h9) rfl dX12_four_8 ?_
  refine lv_aload_n hx hb dX12_four_11 rfl (lv_at hl 1 rfl) ?_
  refine va_get (D := (dC, dI)) (ci := 12) (v := .int 7) (C := RX12) (T := TX12) (N := 57) hx hb hts in12 hown hK hP 0 rfl rfl 2 (by decide) (hts (.fieldLink RX12 133 "FactKeeperModel" "taped" "I") (by decide +kernel)) (fun _ h9 => h9) rfl dX12_four_12 ?_
  refine lv_iload_n hx hb dX12_four_15 rfl (lv_at hl 2 rfl) ?_
  refine lv_iload_n hx hb dX12_four_16 rfl (lv_at hl 0 rfl) ?_
  refine lv_ishr hx hb dX12_four_17 ?_
  refine lv_topi (fun z_17 ez_17 => ?_)
  obtain ⟨z_18, ez_18⟩ : ∃ y : Int32, y = (z_17 : Int32).toInt8.toInt32 := ⟨_, rfl⟩
  refine lv_i2b (v := z_18) hx hb dX12_four_18 ez_18.symm ?_
  refine va_bast hx hb hK hP hD hS 1 0 rfl rfl (by unfold vp_in; decide) dX12_four_19 (fun H locs hP hD hS => ?_)
  have hP : va_P (dC, dI) vwCl [(mo, .inr (12, [.int 0, .ref m1, .int 7, .ref m3, .ref m4, .ref m5, .ref m6, .ref m7, .ref m8, .ref m9, .int 0, .ref m11, .ref m12, .ref m13, .ref m14, .ref m15, .ref m16, .ref m17, .ref m18, .ref m19, .int 0, .int 0, .int 0, .int 0, .ref m24, .int 0, .ref m26, .int 0, .ref m28, .ref m29, .ref m30, .ref m31, .ref m32, .ref m33, .ref m34, .ref m35, .ref m36, .int 0, .int 0, .int 0, .int 0, .int 0, .int (-1), .int 0, .ref m44, .ref m45, .ref m46, .ref m47, .ref m48, .int 0, .ref m50, .ref m51, .ref m52, .ref m53, .ref m54, .int 0, .int 0])), (m1, .inl (k1, 400, .inl (upd g_14 (7 : Int32).toNatClampNeg (vp_nar .byte z_18))))] H := hP
  have hD : va_D A [(mo, .inr (12, [.int 0, .ref m1, .int 7, .ref m3, .ref m4, .ref m5, .ref m6, .ref m7, .ref m8, .ref m9, .int 0, .ref m11, .ref m12, .ref m13, .ref m14, .ref m15, .ref m16, .ref m17, .ref m18, .ref m19, .int 0, .int 0, .int 0, .int 0, .ref m24, .int 0, .ref m26, .int 0, .ref m28, .ref m29, .ref m30, .ref m31, .ref m32, .ref m33, .ref m34, .ref m35, .ref m36, .int 0, .int 0, .int 0, .int 0, .int 0, .int (-1), .int 0, .ref m44, .ref m45, .ref m46, .ref m47, .ref m48, .int 0, .ref m50, .ref m51, .ref m52, .ref m53, .ref m54, .int 0, .int 0])), (m1, .inl (k1, 400, .inl (upd g_14 (7 : Int32).toNatClampNeg (vp_nar .byte z_18))))] := hD
  obtain ⟨g_19, eg_19⟩ : ∃ g : Nat → Int32, g = (upd g_14 (7 : Int32).toNatClampNeg (vp_nar .byte z_18)) := ⟨_, rfl⟩
  rw [← eg_19] at hP hD
  have hP : va_P (dC, dI) vwCl [(mo, .inr (12, [.int 0, .ref m1, .int 7, .ref m3, .ref m4, .ref m5, .ref m6, .ref m7, .ref m8, .ref m9, .int 0, .ref m11, .ref m12, .ref m13, .ref m14, .ref m15, .ref m16, .ref m17, .ref m18, .ref m19, .int 0, .int 0, .int 0, .int 0, .ref m24, .int 0, .ref m26, .int 0, .ref m28, .ref m29, .ref m30, .ref m31, .ref m32, .ref m33, .ref m34, .ref m35, .ref m36, .int 0, .int 0, .int 0, .int 0, .int 0, .int (-1), .int 0, .ref m44, .ref m45, .ref m46, .ref m47, .ref m48, .int 0, .ref m50, .ref m51, .ref m52, .ref m53, .ref m54, .int 0, .int 0])), (m1, .inl (k1, 400, .inl g_19))] H := hP
  have hD : va_D A [(mo, .inr (12, [.int 0, .ref m1, .int 7, .ref m3, .ref m4, .ref m5, .ref m6, .ref m7, .ref m8, .ref m9, .int 0, .ref m11, .ref m12, .ref m13, .ref m14, .ref m15, .ref m16, .ref m17, .ref m18, .ref m19, .int 0, .int 0, .int 0, .int 0, .ref m24, .int 0, .ref m26, .int 0, .ref m28, .ref m29, .ref m30, .ref m31, .ref m32, .ref m33, .ref m34, .ref m35, .ref m36, .int 0, .int 0, .int 0, .int 0, .int 0, .int (-1), .int 0, .ref m44, .ref m45, .ref m46, .ref m47, .ref m48, .int 0, .ref m50, .ref m51, .ref m52, .ref m53, .ref m54, .int 0, .int 0])), (m1, .inl (k1, 400, .inl g_19))] := hD
  refine lv_aload_n hx hb dX12_four_20 rfl (lv_at hl 1 rfl) ?_
  refine lv_dup hx hb dX12_four_21 rfl ?_
  refine va_get (D := (dC, dI)) (ci := 12) (v := .int 7) (C := RX12) (T := TX12) (N := 57) hx hb hts in12 hown hK hP 0 rfl rfl 2 (by decide) (hts (.fieldLink RX12 133 "FactKeeperModel" "taped" "I") (by decide +kernel)) (fun _ h9 => h9) rfl dX12_four_22 ?_
  refine lv_iconst (v := 1) hx hb dX12_four_25 (by decide) ?_
  refine lv_iadd hx hb dX12_four_26 ?_
  refine lv_topi (fun z_20 ez_20 => ?_)
  obtain rfl : z_20 = 8 := ez_20.trans (by decide)
  refine va_put (D := (dC, dI)) (ci := 12) (v := .int 8) (ty := .int) (C := RX12) (T := TX12) (N := 57) hx hb hts in12 tyX12 tyX12_ok nmX12 hown hK hP hD hS 0 rfl rfl 2 (by decide) (hts (.fieldLink RX12 133 "FactKeeperModel" "taped" "I") (by decide +kernel)) (fun _ h9 => h9) rfl (by decide +kernel) rfl rfl (Nat.le_of_ble_eq_true rfl) dX12_four_27 (fun H locs hP hD hS => ?_)
  have hP : va_P (dC, dI) vwCl [(mo, .inr (12, [.int 0, .ref m1, .int 8, .ref m3, .ref m4, .ref m5, .ref m6, .ref m7, .ref m8, .ref m9, .int 0, .ref m11, .ref m12, .ref m13, .ref m14, .ref m15, .ref m16, .ref m17, .ref m18, .ref m19, .int 0, .int 0, .int 0, .int 0, .ref m24, .int 0, .ref m26, .int 0, .ref m28, .ref m29, .ref m30, .ref m31, .ref m32, .ref m33, .ref m34, .ref m35, .ref m36, .int 0, .int 0, .int 0, .int 0, .int 0, .int (-1), .int 0, .ref m44, .ref m45, .ref m46, .ref m47, .ref m48, .int 0, .ref m50, .ref m51, .ref m52, .ref m53, .ref m54, .int 0, .int 0])), (m1, .inl (k1, 400, .inl g_19))] H := hP
  have hD : va_D A [(mo, .inr (12, [.int 0, .ref m1, .int 8, .ref m3, .ref m4, .ref m5, .ref m6, .ref m7, .ref m8, .ref m9, .int 0, .ref m11, .ref m12, .ref m13, .ref m14, .ref m15, .ref m16, .ref m17, .ref m18, .ref m19, .int 0, .int 0, .int 0, .int 0, .ref m24, .int 0, .ref m26, .int 0, .ref m28, .ref m29, .ref m30, .ref m31, .ref m32, .ref m33, .ref m34, .ref m35, .ref m36, .int 0, .int 0, .int 0, .int 0, .int 0, .int (-1), .int 0, .ref m44, .ref m45, .ref m46, .ref m47, .ref m48, .int 0, .ref m50, .ref m51, .ref m52, .ref m53, .ref m54, .int 0, .int 0])), (m1, .inl (k1, 400, .inl g_19))] := hD
  refine lv_iinc (v := (-8)) (lv' := [(2, .int (-8)), (0, .ref mo), (1, .int fo)]) hx hb dX12_four_30 hl (k := 0) rfl (by decide) (by decide) rfl (fun ls hl => ?_)
  refine lv_goto (tgt := 3) hx hb dX12_four_33 (by decide) ?_
  refine lv_iload_n hx hb dX12_four_3 rfl (lv_at hl 0 rfl) ?_
  refine lv_if_lt (tgt := 36) hx hb dX12_four_4 (by decide) (fun _ => ?_) (fun c_21 => absurd c_21 (by decide))
  have hP9 := hP.sub (ws' := [(mo, .inr (12, [.int 0, .ref m1, .int 8, .ref m3, .ref m4, .ref m5, .ref m6, .ref m7, .ref m8, .ref m9, .int 0, .ref m11, .ref m12, .ref m13, .ref m14, .ref m15, .ref m16, .ref m17, .ref m18, .ref m19, .int 0, .int 0, .int 0, .int 0, .ref m24, .int 0, .ref m26, .int 0, .ref m28, .ref m29, .ref m30, .ref m31, .ref m32, .ref m33, .ref m34, .ref m35, .ref m36, .int 0, .int 0, .int 0, .int 0, .int 0, .int (-1), .int 0, .ref m44, .ref m45, .ref m46, .ref m47, .ref m48, .int 0, .ref m50, .ref m51, .ref m52, .ref m53, .ref m54, .int 0, .int 0])), (m1, .inl (k1, 400, .inl g_19))]) [0, 1] rfl
  have hD9 := hD.sub (ws' := [(mo, .inr (12, [.int 0, .ref m1, .int 8, .ref m3, .ref m4, .ref m5, .ref m6, .ref m7, .ref m8, .ref m9, .int 0, .ref m11, .ref m12, .ref m13, .ref m14, .ref m15, .ref m16, .ref m17, .ref m18, .ref m19, .int 0, .int 0, .int 0, .int 0, .ref m24, .int 0, .ref m26, .int 0, .ref m28, .ref m29, .ref m30, .ref m31, .ref m32, .ref m33, .ref m34, .ref m35, .ref m36, .int 0, .int 0, .int 0, .int 0, .int 0, .int (-1), .int 0, .ref m44, .ref m45, .ref m46, .ref m47, .ref m48, .int 0, .ref m50, .ref m51, .ref m52, .ref m53, .ref m54, .int 0, .int 0])), (m1, .inl (k1, 400, .inl g_19))]) [0, 1] (by decide) rfl
  have hK9 := hK.sub (tys' := [(k1, .byte)]) [0] rfl
  refine W.widen (k := 0) (n := 0) (Nat.le_of_ble_eq_true rfl) (Nat.le_of_ble_eq_true rfl) ?_
  exact (W.vret hx hb hr (fun t ht hW => ⟨⟨g_19, rfl, trivial, by rw [ht]; exact hP9, va_K.moved hW.alike hK9, hD9⟩, hS.F ht⟩) hS.2.2 dX12_four_36)

set_option maxHeartbeats 4000000 in
set_option maxRecDepth 100000 in
/-- four at 8 -/
theorem m_four8 (l : Launch) (hl0 : l.stackTraces = false) (dC : Nat → ClassId) (dI : Nat → Nat → Nat) (mo : Nat) (m1 : Nat) (m3 : Nat) (m4 : Nat) (m5 : Nat) (m6 : Nat) (m7 : Nat) (m8 : Nat) (m9 : Nat) (m11 : Nat) (m12 : Nat) (m13 : Nat) (m14 : Nat) (m15 : Nat) (m16 : Nat) (m17 : Nat) (m18 : Nat) (m19 : Nat) (m24 : Nat) (m26 : Nat) (m28 : Nat) (m29 : Nat) (m30 : Nat) (m31 : Nat) (m32 : Nat) (m33 : Nat) (m34 : Nat) (m35 : Nat) (m36 : Nat) (m44 : Nat) (m45 : Nat) (m46 : Nat) (m47 : Nat) (m48 : Nat) (m50 : Nat) (m51 : Nat) (m52 : Nat) (m53 : Nat) (m54 : Nat) (k1 : ClassId) (f : Nat → Int32) (fo : Int32) (sz : Nat)  : Met l yX12_four wsX12_four ({ frames := 0, cells := 0, slots := 0, locals := 0 } : Room) (va_Pc [.ref mo, .int fo] (ct_P (dC, dI) [(mo, .inr (12, [.int 0, .ref m1, .int 8, .ref m3, .ref m4, .ref m5, .ref m6, .ref m7, .ref m8, .ref m9, .int 0, .ref m11, .ref m12, .ref m13, .ref m14, .ref m15, .ref m16, .ref m17, .ref m18, .ref m19, .int 0, .int 0, .int 0, .int 0, .ref m24, .int 0, .ref m26, .int 0, .ref m28, .ref m29, .ref m30, .ref m31, .ref m32, .ref m33, .ref m34, .ref m35, .ref m36, .int 0, .int 0, .int 0, .int 0, .int 0, .int (-1), .int 0, .ref m44, .ref m45, .ref m46, .ref m47, .ref m48, .int 0, .ref m50, .ref m51, .ref m52, .ref m53, .ref m54, .int 0, .int 0])), (m1, .inl (k1, 400, .inl f))] [(k1, .byte)] sz)) (va_Qv (fun (u : (Nat → Int32)) => True) (fun (u : (Nat → Int32)) => ct_B (dC, dI) (va_A [(mo, .inr (12, [.int 0, .ref m1, .int 8, .ref m3, .ref m4, .ref m5, .ref m6, .ref m7, .ref m8, .ref m9, .int 0, .ref m11, .ref m12, .ref m13, .ref m14, .ref m15, .ref m16, .ref m17, .ref m18, .ref m19, .int 0, .int 0, .int 0, .int 0, .ref m24, .int 0, .ref m26, .int 0, .ref m28, .ref m29, .ref m30, .ref m31, .ref m32, .ref m33, .ref m34, .ref m35, .ref m36, .int 0, .int 0, .int 0, .int 0, .int 0, .int (-1), .int 0, .ref m44, .ref m45, .ref m46, .ref m47, .ref m48, .int 0, .ref m50, .ref m51, .ref m52, .ref m53, .ref m54, .int 0, .int 0])), (m1, .inl (k1, 400, .inl f))] sz) [(mo, .inr (12, [.int 0, .ref m1, .int 12, .ref m3, .ref m4, .ref m5, .ref m6, .ref m7, .ref m8, .ref m9, .int 0, .ref m11, .ref m12, .ref m13, .ref m14, .ref m15, .ref m16, .ref m17, .ref m18, .ref m19, .int 0, .int 0, .int 0, .int 0, .ref m24, .int 0, .ref m26, .int 0, .ref m28, .ref m29, .ref m30, .ref m31, .ref m32, .ref m33, .ref m34, .ref m35, .ref m36, .int 0, .int 0, .int 0, .int 0, .int 0, .int (-1), .int 0, .ref m44, .ref m45, .ref m46, .ref m47, .ref m48, .int 0, .ref m50, .ref m51, .ref m52, .ref m53, .ref m54, .int 0, .int 0])), (m1, .inl (k1, 400, .inl u))] [(k1, .byte)]) (va_A [(mo, .inr (12, [.int 0, .ref m1, .int 8, .ref m3, .ref m4, .ref m5, .ref m6, .ref m7, .ref m8, .ref m9, .int 0, .ref m11, .ref m12, .ref m13, .ref m14, .ref m15, .ref m16, .ref m17, .ref m18, .ref m19, .int 0, .int 0, .int 0, .int 0, .ref m24, .int 0, .ref m26, .int 0, .ref m28, .ref m29, .ref m30, .ref m31, .ref m32, .ref m33, .ref m34, .ref m35, .ref m36, .int 0, .int 0, .int 0, .int 0, .int 0, .int (-1), .int 0, .ref m44, .ref m45, .ref m46, .ref m47, .ref m48, .int 0, .ref m50, .ref m51, .ref m52, .ref m53, .ref m54, .int 0, .int 0])), (m1, .inl (k1, 400, .inl f))] sz)) 0 0 (va_A [(mo, .inr (12, [.int 0, .ref m1, .int 8, .ref m3, .ref m4, .ref m5, .ref m6, .ref m7, .ref m8, .ref m9, .int 0, .ref m11, .ref m12, .ref m13, .ref m14, .ref m15, .ref m16, .ref m17, .ref m18, .ref m19, .int 0, .int 0, .int 0, .int 0, .ref m24, .int 0, .ref m26, .int 0, .ref m28, .ref m29, .ref m30, .ref m31, .ref m32, .ref m33, .ref m34, .ref m35, .ref m36, .int 0, .int 0, .int 0, .int 0, .int 0, .int (-1), .int 0, .ref m44, .ref m45, .ref m46, .ref m47, .ref m48, .int 0, .ref m50, .ref m51, .ref m52, .ref m53, .ref m54, .int 0, .int 0])), (m1, .inl (k1, 400, .inl f))] sz) := by
  refine Met.ofW (cc := cX12_four) (maxL := 3) (ret := none) (by decide) rfl ?_
  intro p e s m args below meth c s₁ B hml hv
  obtain ⟨rfl, hsz, hP, hK, hD0, hZ⟩ := hv
  have hx := B.exec
  have hb := B.bytes
  have hr := B.returns
  have hts := atoms_spec (ws := wsX12_four) B.pre
  have hown : s.vm.findClass RX12 = some m.cls := findClass_of_methodNamed B.named
  have hlocks := B.notSynchronized
  have in12 : ∀ w ∈ u_ws RX12 TX12 57, w ∈ wsX12_four := fun w h => (List.mem_cons_of_mem _ (List.mem_append_right _ h))
  subst hsz
  have hD := hD0.self (sz := s.heap.size)
  generalize hAe : va_A [(mo, .inr (12, [.int 0, .ref m1, .int 8, .ref m3, .ref m4, .ref m5, .ref m6, .ref m7, .ref m8, .ref m9, .int 0, .ref m11, .ref m12, .ref m13, .ref m14, .ref m15, .ref m16, .ref m17, .ref m18, .ref m19, .int 0, .int 0, .int 0, .int 0, .ref m24, .int 0, .ref m26, .int 0, .ref m28, .ref m29, .ref m30, .ref m31, .ref m32, .ref m33, .ref m34, .ref m35, .ref m36, .int 0, .int 0, .int 0, .int 0, .int 0, .int (-1), .int 0, .ref m44, .ref m45, .ref m46, .ref m47, .ref m48, .int 0, .ref m50, .ref m51, .ref m52, .ref m53, .ref m54, .int 0, .int 0])), (m1, .inl (k1, 400, .inl f))] s.heap.size = A at hD hZ ⊢
  have hA : ∀ q : Nat, s.heap.size ≤ q → A q := fun q h => by rw [← hAe]; exact Or.inr h
  have hS : va_S A s.heap s.heap [] := va_S.rf
  have hP : va_P (dC, dI) vwCl [(mo, .inr (12, [.int 0, .ref m1, .int 8, .ref m3, .ref m4, .ref m5, .ref m6, .ref m7, .ref m8, .ref m9, .int 0, .ref m11, .ref m12, .ref m13, .ref m14, .ref m15, .ref m16, .ref m17, .ref m18, .ref m19, .int 0, .int 0, .int 0, .int 0, .ref m24, .int 0, .ref m26, .int 0, .ref m28, .ref m29, .ref m30, .ref m31, .ref m32, .ref m33, .ref m34, .ref m35, .ref m36, .int 0, .int 0, .int 0, .int 0, .int 0, .int (-1), .int 0, .ref m44, .ref m45, .ref m46, .ref m47, .ref m48, .int 0, .ref m50, .ref m51, .ref m52, .ref m53, .ref m54, .int 0, .int 0])), (m1, .inl (k1, 400, .inl f))] s.heap := hP
  have hK : va_K (dC, dI) vwCl [(k1, .byte)] s := hK
  have hD : va_D A [(mo, .inr (12, [.int 0, .ref m1, .int 8, .ref m3, .ref m4, .ref m5, .ref m6, .ref m7, .ref m8, .ref m9, .int 0, .ref m11, .ref m12, .ref m13, .ref m14, .ref m15, .ref m16, .ref m17, .ref m18, .ref m19, .int 0, .int 0, .int 0, .int 0, .ref m24, .int 0, .ref m26, .int 0, .ref m28, .ref m29, .ref m30, .ref m31, .ref m32, .ref m33, .ref m34, .ref m35, .ref m36, .int 0, .int 0, .int 0, .int 0, .int 0, .int (-1), .int 0, .ref m44, .ref m45, .ref m46, .ref m47, .ref m48, .int 0, .ref m50, .ref m51, .ref m52, .ref m53, .ref m54, .int 0, .int 0])), (m1, .inl (k1, 400, .inl f))] := hD
  have hl := lv_entry ([.ref mo, .int fo]) (n := 3) (Nat.le_of_ble_eq_true rfl)
  rw [lg_entry_eq]
  generalize (lg_sl ([.ref mo, .int fo]) ++ List.replicate (3 - (lg_sl ([.ref mo, .int fo])).length) Slot.unset).toArray = ls at hl ⊢
  have hl : lv_has ls 3 [(0, .ref mo), (1, .int fo)] := hl
  refine lv_bipush (v := 24) hx hb dX12_four_0 (by decide) ?_
  refine lv_istore_n (lv' := [(2, .int 24), (0, .ref mo), (1, .int fo)]) hx hb dX12_four_2 rfl hl (by decide) rfl (fun ls hl => ?_)
  refine lv_iload_n hx hb dX12_four_3 rfl (lv_at hl 0 rfl) ?_
  refine lv_if_lt (tgt := 36) hx hb dX12_four_4 (by decide) (fun c_1 => absurd c_1 (by decide)) (fun _ => ?_)
  refine lv_aload_n hx hb dX12_four_7 rfl (lv_at hl 1 rfl) ?_
  refine va_get (D := (dC, dI)) (ci := 12) (v := .ref m1) (C := RX12) (T := TX12) (N := 57) hx hb hts in12 hown hK hP 0 rfl rfl 1 (by decide) (hts (.fieldLink RX12 13 "FactKeeperModel" "tape" "[B") (by decide +kernel)) (fun _ h9 => h9) rfl dX12_four_8 ?_
  refine lv_aload_n hx hb dX12_four_11 rfl (lv_at hl 1 rfl) ?_
  refine va_get (D := (dC, dI)) (ci := 12) (v := .int 8) (C := RX12) (T := TX12) (N := 57) hx hb hts in12 hown hK hP 0 rfl rfl 2 (by decide) (hts (.fieldLink RX12 133 "FactKeeperModel" "taped" "I") (by decide +kernel)) (fun _ h9 => h9) rfl dX12_four_12 ?_
  refine lv_iload_n hx hb dX12_four_15 rfl (lv_at hl 2 rfl) ?_
  refine lv_iload_n hx hb dX12_four_16 rfl (lv_at hl 0 rfl) ?_
  refine lv_ishr hx hb dX12_four_17 ?_
  refine lv_topi (fun z_2 ez_2 => ?_)
  obtain ⟨z_3, ez_3⟩ : ∃ y : Int32, y = (z_2 : Int32).toInt8.toInt32 := ⟨_, rfl⟩
  refine lv_i2b (v := z_3) hx hb dX12_four_18 ez_3.symm ?_
  refine va_bast hx hb hK hP hD hS 1 0 rfl rfl (by unfold vp_in; decide) dX12_four_19 (fun H locs hP hD hS => ?_)
  have hP : va_P (dC, dI) vwCl [(mo, .inr (12, [.int 0, .ref m1, .int 8, .ref m3, .ref m4, .ref m5, .ref m6, .ref m7, .ref m8, .ref m9, .int 0, .ref m11, .ref m12, .ref m13, .ref m14, .ref m15, .ref m16, .ref m17, .ref m18, .ref m19, .int 0, .int 0, .int 0, .int 0, .ref m24, .int 0, .ref m26, .int 0, .ref m28, .ref m29, .ref m30, .ref m31, .ref m32, .ref m33, .ref m34, .ref m35, .ref m36, .int 0, .int 0, .int 0, .int 0, .int 0, .int (-1), .int 0, .ref m44, .ref m45, .ref m46, .ref m47, .ref m48, .int 0, .ref m50, .ref m51, .ref m52, .ref m53, .ref m54, .int 0, .int 0])), (m1, .inl (k1, 400, .inl (upd f (8 : Int32).toNatClampNeg (vp_nar .byte z_3))))] H := hP
  have hD : va_D A [(mo, .inr (12, [.int 0, .ref m1, .int 8, .ref m3, .ref m4, .ref m5, .ref m6, .ref m7, .ref m8, .ref m9, .int 0, .ref m11, .ref m12, .ref m13, .ref m14, .ref m15, .ref m16, .ref m17, .ref m18, .ref m19, .int 0, .int 0, .int 0, .int 0, .ref m24, .int 0, .ref m26, .int 0, .ref m28, .ref m29, .ref m30, .ref m31, .ref m32, .ref m33, .ref m34, .ref m35, .ref m36, .int 0, .int 0, .int 0, .int 0, .int 0, .int (-1), .int 0, .ref m44, .ref m45, .ref m46, .ref m47, .ref m48, .int 0, .ref m50, .ref m51, .ref m52, .ref m53, .ref m54, .int 0, .int 0])), (m1, .inl (k1, 400, .inl (upd f (8 : Int32).toNatClampNeg (vp_nar .byte z_3))))] := hD
  obtain ⟨g_4, eg_4⟩ : ∃ g : Nat → Int32, g = (upd f (8 : Int32).toNatClampNeg (vp_nar .byte z_3)) := ⟨_, rfl⟩
  rw [← eg_4] at hP hD
  have hP : va_P (dC, dI) vwCl [(mo, .inr (12, [.int 0, .ref m1, .int 8, .ref m3, .ref m4, .ref m5, .ref m6, .ref m7, .ref m8, .ref m9, .int 0, .ref m11, .ref m12, .ref m13, .ref m14, .ref m15, .ref m16, .ref m17, .ref m18, .ref m19, .int 0, .int 0, .int 0, .int 0, .ref m24, .int 0, .ref m26, .int 0, .ref m28, .ref m29, .ref m30, .ref m31, .ref m32, .ref m33, .ref m34, .ref m35, .ref m36, .int 0, .int 0, .int 0, .int 0, .int 0, .int (-1), .int 0, .ref m44, .ref m45, .ref m46, .ref m47, .ref m48, .int 0, .ref m50, .ref m51, .ref m52, .ref m53, .ref m54, .int 0, .int 0])), (m1, .inl (k1, 400, .inl g_4))] H := hP
  have hD : va_D A [(mo, .inr (12, [.int 0, .ref m1, .int 8, .ref m3, .ref m4, .ref m5, .ref m6, .ref m7, .ref m8, .ref m9, .int 0, .ref m11, .ref m12, .ref m13, .ref m14, .ref m15, .ref m16, .ref m17, .ref m18, .ref m19, .int 0, .int 0, .int 0, .int 0, .ref m24, .int 0, .ref m26, .int 0, .ref m28, .ref m29, .ref m30, .ref m31, .ref m32, .ref m33, .ref m34, .ref m35, .ref m36, .int 0, .int 0, .int 0, .int 0, .int 0, .int (-1), .int 0, .ref m44, .ref m45, .ref m46, .ref m47, .ref m48, .int 0, .ref m50, .ref m51, .ref m52, .ref m53, .ref m54, .int 0, .int 0])), (m1, .inl (k1, 400, .inl g_4))] := hD
  refine lv_aload_n hx hb dX12_four_20 rfl (lv_at hl 1 rfl) ?_
  refine lv_dup hx hb dX12_four_21 rfl ?_
  refine va_get (D := (dC, dI)) (ci := 12) (v := .int 8) (C := RX12) (T := TX12) (N := 57) hx hb hts in12 hown hK hP 0 rfl rfl 2 (by decide) (hts (.fieldLink RX12 133 "FactKeeperModel" "taped" "I") (by decide +kernel)) (fun _ h9 => h9) rfl dX12_four_22 ?_
  refine lv_iconst (v := 1) hx hb dX12_four_25 (by decide) ?_
  refine lv_iadd hx hb dX12_four_26 ?_
  refine lv_topi (fun z_5 ez_5 => ?_)
  obtain rfl : z_5 = 9 := ez_5.trans (by decide)
  refine va_put (D := (dC, dI)) (ci := 12) (v := .int 9) (ty := .int) (C := RX12) (T := TX12) (N := 57) hx hb hts in12 tyX12 tyX12_ok nmX12 hown hK hP hD hS 0 rfl rfl 2 (by decide) (hts (.fieldLink RX12 133 "FactKeeperModel" "taped" "I") (by decide +kernel)) (fun _ h9 => h9) rfl (by decide +kernel) rfl rfl (Nat.le_of_ble_eq_true rfl) dX12_four_27 (fun H locs hP hD hS => ?_)
  have hP : va_P (dC, dI) vwCl [(mo, .inr (12, [.int 0, .ref m1, .int 9, .ref m3, .ref m4, .ref m5, .ref m6, .ref m7, .ref m8, .ref m9, .int 0, .ref m11, .ref m12, .ref m13, .ref m14, .ref m15, .ref m16, .ref m17, .ref m18, .ref m19, .int 0, .int 0, .int 0, .int 0, .ref m24, .int 0, .ref m26, .int 0, .ref m28, .ref m29, .ref m30, .ref m31, .ref m32, .ref m33, .ref m34, .ref m35, .ref m36, .int 0, .int 0, .int 0, .int 0, .int 0, .int (-1), .int 0, .ref m44, .ref m45, .ref m46, .ref m47, .ref m48, .int 0, .ref m50, .ref m51, .ref m52, .ref m53, .ref m54, .int 0, .int 0])), (m1, .inl (k1, 400, .inl g_4))] H := hP
  have hD : va_D A [(mo, .inr (12, [.int 0, .ref m1, .int 9, .ref m3, .ref m4, .ref m5, .ref m6, .ref m7, .ref m8, .ref m9, .int 0, .ref m11, .ref m12, .ref m13, .ref m14, .ref m15, .ref m16, .ref m17, .ref m18, .ref m19, .int 0, .int 0, .int 0, .int 0, .ref m24, .int 0, .ref m26, .int 0, .ref m28, .ref m29, .ref m30, .ref m31, .ref m32, .ref m33, .ref m34, .ref m35, .ref m36, .int 0, .int 0, .int 0, .int 0, .int 0, .int (-1), .int 0, .ref m44, .ref m45, .ref m46, .ref m47, .ref m48, .int 0, .ref m50, .ref m51, .ref m52, .ref m53, .ref m54, .int 0, .int 0])), (m1, .inl (k1, 400, .inl g_4))] := hD
  refine lv_iinc (v := 16) (lv' := [(2, .int 16), (0, .ref mo), (1, .int fo)]) hx hb dX12_four_30 hl (k := 0) rfl (by decide) (by decide) rfl (fun ls hl => ?_)
  refine lv_goto (tgt := 3) hx hb dX12_four_33 (by decide) ?_
  refine lv_iload_n hx hb dX12_four_3 rfl (lv_at hl 0 rfl) ?_
  refine lv_if_lt (tgt := 36) hx hb dX12_four_4 (by decide) (fun c_6 => absurd c_6 (by decide)) (fun _ => ?_)
  refine lv_aload_n hx hb dX12_four_7 rfl (lv_at hl 1 rfl) ?_
  refine va_get (D := (dC, dI)) (ci := 12) (v := .ref m1) (C := RX12) (T := TX12) (N := 57) hx hb hts in12 hown hK hP 0 rfl rfl 1 (by decide) (hts (.fieldLink RX12 13 "FactKeeperModel" "tape" "[B") (by decide +kernel)) (fun _ h9 => h9) rfl dX12_four_8 ?_
  refine lv_aload_n hx hb dX12_four_11 rfl (lv_at hl 1 rfl) ?_
  refine va_get (D := (dC, dI)) (ci := 12) (v := .int 9) (C := RX12) (T := TX12) (N := 57) hx hb hts in12 hown hK hP 0 rfl rfl 2 (by decide) (hts (.fieldLink RX12 133 "FactKeeperModel" "taped" "I") (by decide +kernel)) (fun _ h9 => h9) rfl dX12_four_12 ?_
  refine lv_iload_n hx hb dX12_four_15 rfl (lv_at hl 2 rfl) ?_
  refine lv_iload_n hx hb dX12_four_16 rfl (lv_at hl 0 rfl) ?_
  refine lv_ishr hx hb dX12_four_17 ?_
  refine lv_topi (fun z_7 ez_7 => ?_)
  obtain ⟨z_8, ez_8⟩ : ∃ y : Int32, y = (z_7 : Int32).toInt8.toInt32 := ⟨_, rfl⟩
  refine lv_i2b (v := z_8) hx hb dX12_four_18 ez_8.symm ?_
  refine va_bast hx hb hK hP hD hS 1 0 rfl rfl (by unfold vp_in; decide) dX12_four_19 (fun H locs hP hD hS => ?_)
  have hP : va_P (dC, dI) vwCl [(mo, .inr (12, [.int 0, .ref m1, .int 9, .ref m3, .ref m4, .ref m5, .ref m6, .ref m7, .ref m8, .ref m9, .int 0, .ref m11, .ref m12, .ref m13, .ref m14, .ref m15, .ref m16, .ref m17, .ref m18, .ref m19, .int 0, .int 0, .int 0, .int 0, .ref m24, .int 0, .ref m26, .int 0, .ref m28, .ref m29, .ref m30, .ref m31, .ref m32, .ref m33, .ref m34, .ref m35, .ref m36, .int 0, .int 0, .int 0, .int 0, .int 0, .int (-1), .int 0, .ref m44, .ref m45, .ref m46, .ref m47, .ref m48, .int 0, .ref m50, .ref m51, .ref m52, .ref m53, .ref m54, .int 0, .int 0])), (m1, .inl (k1, 400, .inl (upd g_4 (9 : Int32).toNatClampNeg (vp_nar .byte z_8))))] H := hP
  have hD : va_D A [(mo, .inr (12, [.int 0, .ref m1, .int 9, .ref m3, .ref m4, .ref m5, .ref m6, .ref m7, .ref m8, .ref m9, .int 0, .ref m11, .ref m12, .ref m13, .ref m14, .ref m15, .ref m16, .ref m17, .ref m18, .ref m19, .int 0, .int 0, .int 0, .int 0, .ref m24, .int 0, .ref m26, .int 0, .ref m28, .ref m29, .ref m30, .ref m31, .ref m32, .ref m33, .ref m34, .ref m35, .ref m36, .int 0, .int 0, .int 0, .int 0, .int 0, .int (-1), .int 0, .ref m44, .ref m45, .ref m46, .ref m47, .ref m48, .int 0, .ref m50, .ref m51, .ref m52, .ref m53, .ref m54, .int 0, .int 0])), (m1, .inl (k1, 400, .inl (upd g_4 (9 : Int32).toNatClampNeg (vp_nar .byte z_8))))] := hD
  obtain ⟨g_9, eg_9⟩ : ∃ g : Nat → Int32, g = (upd g_4 (9 : Int32).toNatClampNeg (vp_nar .byte z_8)) := ⟨_, rfl⟩
  rw [← eg_9] at hP hD
  have hP : va_P (dC, dI) vwCl [(mo, .inr (12, [.int 0, .ref m1, .int 9, .ref m3, .ref m4, .ref m5, .ref m6, .ref m7, .ref m8, .ref m9, .int 0, .ref m11, .ref m12, .ref m13, .ref m14, .ref m15, .ref m16, .ref m17, .ref m18, .ref m19, .int 0, .int 0, .int 0, .int 0, .ref m24, .int 0, .ref m26, .int 0, .ref m28, .ref m29, .ref m30, .ref m31, .ref m32, .ref m33, .ref m34, .ref m35, .ref m36, .int 0, .int 0, .int 0, .int 0, .int 0, .int (-1), .int 0, .ref m44, .ref m45, .ref m46, .ref m47, .ref m48, .int 0, .ref m50, .ref m51, .ref m52, .ref m53, .ref m54, .int 0, .int 0])), (m1, .inl (k1, 400, .inl g_9))] H := hP
  have hD : va_D A [(mo, .inr (12, [.int 0, .ref m1, .int 9, .ref m3, .ref m4, .ref m5, .ref m6, .ref m7, .ref m8, .ref m9, .int 0, .ref m11, .ref m12, .ref m13, .ref m14, .ref m15, .ref m16, .ref m17, .ref m18, .ref m19, .int 0, .int 0, .int 0, .int 0, .ref m24, .int 0, .ref m26, .int 0, .ref m28, .ref m29, .ref m30, .ref m31, .ref m32, .ref m33, .ref m34, .ref m35, .ref m36, .int 0, .int 0, .int 0, .int 0, .int 0, .int (-1), .int 0, .ref m44, .ref m45, .ref m46, .ref m47, .ref m48, .int 0, .ref m50, .ref m51, .ref m52, .ref m53, .ref m54, .int 0, .int 0])), (m1, .inl (k1, 400, .inl g_9))] := hD
  refine lv_aload_n hx hb dX12_four_20 rfl (lv_at hl 1 rfl) ?_
  refine lv_dup hx hb dX12_four_21 rfl ?_
  refine va_get (D := (dC, dI)) (ci := 12) (v := .int 9) (C := RX12) (T := TX12) (N := 57) hx hb hts in12 hown hK hP 0 rfl rfl 2 (by decide) (hts (.fieldLink RX12 133 "FactKeeperModel" "taped" "I") (by decide +kernel)) (fun _ h9 => h9) rfl dX12_four_22 ?_
  refine lv_iconst (v := 1) hx hb dX12_four_25 (by decide) ?_
  refine lv_iadd hx hb dX12_four_26 ?_
  refine lv_topi (fun z_10 ez_10 => ?_)
  obtain rfl : z_10 = 10 := ez_10.trans (by decide)
  refine va_put (D := (dC, dI)) (ci := 12) (v := .int 10) (ty := .int) (C := RX12) (T := TX12) (N := 57) hx hb hts in12 tyX12 tyX12_ok nmX12 hown hK hP hD hS 0 rfl rfl 2 (by decide) (hts (.fieldLink RX12 133 "FactKeeperModel" "taped" "I") (by decide +kernel)) (fun _ h9 => h9) rfl (by decide +kernel) rfl rfl (Nat.le_of_ble_eq_true rfl) dX12_four_27 (fun H locs hP hD hS => ?_)
  have hP : va_P (dC, dI) vwCl [(mo, .inr (12, [.int 0, .ref m1, .int 10, .ref m3, .ref m4, .ref m5, .ref m6, .ref m7, .ref m8, .ref m9, .int 0, .ref m11, .ref m12, .ref m13, .ref m14, .ref m15, .ref m16, .ref m17, .ref m18, .ref m19, .int 0, .int 0, .int 0, .int 0, .ref m24, .int 0, .ref m26, .int 0, .ref m28, .ref m29, .ref m30, .ref m31, .ref m32, .ref m33, .ref m34, .ref m35, .ref m36, .int 0, .int 0, .int 0, .int 0, .int 0, .int (-1), .int 0, .ref m44, .ref m45, .ref m46, .ref m47, .ref m48, .int 0, .ref m50, .ref m51, .ref m52, .ref m53, .ref m54, .int 0, .int 0])), (m1, .inl (k1, 400, .inl g_9))] H := hP
  have hD : va_D A [(mo, .inr (12, [.int 0, .ref m1, .int 10, .ref m3, .ref m4, .ref m5, .ref m6, .ref m7, .ref m8, .ref m9, .int 0, .ref m11, .ref m12, .ref m13, .ref m14, .ref m15, .ref m16, .ref m17, .ref m18, .ref m19, .int 0, .int 0, .int 0, .int 0, .ref m24, .int 0, .ref m26, .int 0, .ref m28, .ref m29, .ref m30, .ref m31, .ref m32, .ref m33, .ref m34, .ref m35, .ref m36, .int 0, .int 0, .int 0, .int 0, .int 0, .int (-1), .int 0, .ref m44, .ref m45, .ref m46, .ref m47, .ref m48, .int 0, .ref m50, .ref m51, .ref m52, .ref m53, .ref m54, .int 0, .int 0])), (m1, .inl (k1, 400, .inl g_9))] := hD
  refine lv_iinc (v := 8) (lv' := [(2, .int 8), (0, .ref mo), (1, .int fo)]) hx hb dX12_four_30 hl (k := 0) rfl (by decide) (by decide) rfl (fun ls hl => ?_)
  refine lv_goto (tgt := 3) hx hb dX12_four_33 (by decide) ?_
  refine lv_iload_n hx hb dX12_four_3 rfl (lv_at hl 0 rfl) ?_
  refine lv_if_lt (tgt := 36) hx hb dX12_four_4 (by decide) (fun c_11 => absurd c_11 (by decide)) (fun _ => ?_)
  refine lv_aload_n hx hb dX12_four_7 rfl (lv_at hl 1 rfl) ?_
  refine va_get (D := (dC, dI)) (ci := 12) (v := .ref m1) (C := RX12) (T := TX12) (N := 57) hx hb hts in12 hown hK hP 0 rfl rfl 1 (by decide) (hts (.fieldLink RX12 13 "FactKeeperModel" "tape" "[B") (by decide +kernel)) (fun _ h9 => h9) rfl dX12_four_8 ?_
  refine lv_aload_n hx hb dX12_four_11 rfl (lv_at hl 1 rfl) ?_
  refine va_get (D := (dC, dI)) (ci := 12) (v := .int 10) (C := RX12) (T := TX12) (N := 57) hx hb hts in12 hown hK hP 0 rfl rfl 2 (by decide) (hts (.fieldLink RX12 133 "FactKeeperModel" "taped" "I") (by decide +kernel)) (fun _ h9 => h9) rfl dX12_four_12 ?_
  refine lv_iload_n hx hb dX12_four_15 rfl (lv_at hl 2 rfl) ?_
  refine lv_iload_n hx hb dX12_four_16 rfl (lv_at hl 0 rfl) ?_
  refine lv_ishr hx hb dX12_four_17 ?_
  refine lv_topi (fun z_12 ez_12 => ?_)
  obtain ⟨z_13, ez_13⟩ : ∃ y : Int32, y = (z_12 : Int32).toInt8.toInt32 := ⟨_, rfl⟩
  refine lv_i2b (v := z_13) hx hb dX12_four_18 ez_13.symm ?_
  refine va_bast hx hb hK hP hD hS 1 0 rfl rfl (by unfold vp_in; decide) dX12_four_19 (fun H locs hP hD hS => ?_)
  have hP : va_P (dC, dI) vwCl [(mo, .inr (12, [.int 0, .ref m1, .int 10, .ref m3, .ref m4, .ref m5, .ref m6, .ref m7, .ref m8, .ref m9, .int 0, .ref m11, .ref m12, .ref m13, .ref m14, .ref m15, .ref m16, .ref m17, .ref m18, .ref m19, .int 0, .int 0, .int 0, .int 0, .ref m24, .int 0, .ref m26, .int 0, .ref m28, .ref m29, .ref m30, .ref m31, .ref m32, .ref m33, .ref m34, .ref m35, .ref m36, .int 0, .int 0, .int 0, .int 0, .int 0, .int (-1), .int 0, .ref m44, .ref m45, .ref m46, .ref m47, .ref m48, .int 0, .ref m50, .ref m51, .ref m52, .ref m53, .ref m54, .int 0, .int 0])), (m1, .inl (k1, 400, .inl (upd g_9 (10 : Int32).toNatClampNeg (vp_nar .byte z_13))))] H := hP
  have hD : va_D A [(mo, .inr (12, [.int 0, .ref m1, .int 10, .ref m3, .ref m4, .ref m5, .ref m6, .ref m7, .ref m8, .ref m9, .int 0, .ref m11, .ref m12, .ref m13, .ref m14, .ref m15, .ref m16, .ref m17, .ref m18, .ref m19, .int 0, .int 0, .int 0, .int 0, .ref m24, .int 0, .ref m26, .int 0, .ref m28, .ref m29, .ref m30, .ref m31, .ref m32, .ref m33, .ref m34, .ref m35, .ref m36, .int 0, .int 0, .int 0, .int 0, .int 0, .int (-1), .int 0, .ref m44, .ref m45, .ref m46, .ref m47, .ref m48, .int 0, .ref m50, .ref m51, .ref m52, .ref m53, .ref m54, .int 0, .int 0])), (m1, .inl (k1, 400, .inl (upd g_9 (10 : Int32).toNatClampNeg (vp_nar .byte z_13))))] := hD
  obtain ⟨g_14, eg_14⟩ : ∃ g : Nat → Int32, g = (upd g_9 (10 : Int32).toNatClampNeg (vp_nar .byte z_13)) := ⟨_, rfl⟩
  rw [← eg_14] at hP hD
  have hP : va_P (dC, dI) vwCl [(mo, .inr (12, [.int 0, .ref m1, .int 10, .ref m3, .ref m4, .ref m5, .ref m6, .ref m7, .ref m8, .ref m9, .int 0, .ref m11, .ref m12, .ref m13, .ref m14, .ref m15, .ref m16, .ref m17, .ref m18, .ref m19, .int 0, .int 0, .int 0, .int 0, .ref m24, .int 0, .ref m26, .int 0, .ref m28, .ref m29, .ref m30, .ref m31, .ref m32, .ref m33, .ref m34, .ref m35, .ref m36, .int 0, .int 0, .int 0, .int 0, .int 0, .int (-1), .int 0, .ref m44, .ref m45, .ref m46, .ref m47, .ref m48, .int 0, .ref m50, .ref m51, .ref m52, .ref m53, .ref m54, .int 0, .int 0])), (m1, .inl (k1, 400, .inl g_14))] H := hP
  have hD : va_D A [(mo, .inr (12, [.int 0, .ref m1, .int 10, .ref m3, .ref m4, .ref m5, .ref m6, .ref m7, .ref m8, .ref m9, .int 0, .ref m11, .ref m12, .ref m13, .ref m14, .ref m15, .ref m16, .ref m17, .ref m18, .ref m19, .int 0, .int 0, .int 0, .int 0, .ref m24, .int 0, .ref m26, .int 0, .ref m28, .ref m29, .ref m30, .ref m31, .ref m32, .ref m33, .ref m34, .ref m35, .ref m36, .int 0, .int 0, .int 0, .int 0, .int 0, .int (-1), .int 0, .ref m44, .ref m45, .ref m46, .ref m47, .ref m48, .int 0, .ref m50, .ref m51, .ref m52, .ref m53, .ref m54, .int 0, .int 0])), (m1, .inl (k1, 400, .inl g_14))] := hD
  refine lv_aload_n hx hb dX12_four_20 rfl (lv_at hl 1 rfl) ?_
  refine lv_dup hx hb dX12_four_21 rfl ?_
  refine va_get (D := (dC, dI)) (ci := 12) (v := .int 10) (C := RX12) (T := TX12) (N := 57) hx hb hts in12 hown hK hP 0 rfl rfl 2 (by decide) (hts (.fieldLink RX12 133 "FactKeeperModel" "taped" "I") (by decide +kernel)) (fun _ h9 => h9) rfl dX12_four_22 ?_
  refine lv_iconst (v := 1) hx hb dX12_four_25 (by decide) ?_
  refine lv_iadd hx hb dX12_four_26 ?_
  refine lv_topi (fun z_15 ez_15 => ?_)
  obtain rfl : z_15 = 11 := ez_15.trans (by decide)
  refine va_put (D := (dC, dI)) (ci := 12) (v := .int 11) (ty := .int) (C := RX12) (T := TX12) (N := 57) hx hb hts in12 tyX12 tyX12_ok nmX12 hown hK hP hD hS 0 rfl rfl 2 (by decide) (hts (.fieldLink RX12 133 "FactKeeperModel" "taped" "I") (by decide +kernel)) (fun _ h9 => h9) rfl (by decide +kernel) rfl rfl (Nat.le_of_ble_eq_true rfl) dX12_four_27 (fun H locs hP hD hS => ?_)
  have hP : va_P (dC, dI) vwCl [(mo, .inr (12, [.int 0, .ref m1, .int 11, .ref m3, .ref m4, .ref m5, .ref m6, .ref m7, .ref m8, .ref m9, .int 0, .ref m11, .ref m12, .ref m13, .ref m14, .ref m15, .ref m16, .ref m17, .ref m18, .ref m19, .int 0, .int 0, .int 0, .int 0, .ref m24, .int 0, .ref m26, .int 0, .ref m28, .ref m29, .ref m30, .ref m31, .ref m32, .ref m33, .ref m34, .ref m35, .ref m36, .int 0, .int 0, .int 0, .int 0, .int 0, .int (-1), .int 0, .ref m44, .ref m45, .ref m46, .ref m47, .ref m48, .int 0, .ref m50, .ref m51, .ref m52, .ref m53, .ref m54, .int 0, .int 0])), (m1, .inl (k1, 400, .inl g_14))] H := hP
  have hD : va_D A [(mo, .inr (12, [.int 0, .ref m1, .int 11, .ref m3, .ref m4, .ref m5, .ref m6, .ref m7, .ref m8, .ref m9, .int 0, .ref m11, .ref m12, .ref m13, .ref m14, .ref m15, .ref m16, .ref m17, .ref m18, .ref m19, .int 0, .int 0, .int 0, .int 0, .ref m24, .int 0, .ref m26, .int 0, .ref m28, .ref m29, .ref m30, .ref m31, .ref m32, .ref m33, .ref m34, .ref m35, .ref m36, .int 0, .int 0, .int 0, .int 0, .int 0, .int (-1), .int 0, .ref m44, .ref m45, .ref m46, .ref m47, .ref m48, .int 0, .ref m50, .ref m51, .ref m52, .ref m53, .ref m54, .int 0, .int 0])), (m1, .inl (k1, 400, .inl g_14))] := hD
  refine lv_iinc (v := 0) (lv' := [(2, .int 0), (0, .ref mo), (1, .int fo)]) hx hb dX12_four_30 hl (k := 0) rfl (by decide) (by decide) rfl (fun ls hl => ?_)
  refine lv_goto (tgt := 3) hx hb dX12_four_33 (by decide) ?_
  refine lv_iload_n hx hb dX12_four_3 rfl (lv_at hl 0 rfl) ?_
  refine lv_if_lt (tgt := 36) hx hb dX12_four_4 (by decide) (fun c_16 => absurd c_16 (by decide)) (fun _ => ?_)
  refine lv_aload_n hx hb dX12_four_7 rfl (lv_at hl 1 rfl) ?_
  refine va_get (D := (dC, dI)) (ci := 12) (v := .ref m1) (C := RX12) (T := TX12) (N := 57) hx hb hts in12 hown hK hP 0 rfl rfl 1 (by decide) (hts (.fieldLink RX12 13 "FactKeeperModel" "tape" "[B") (by decide +kernel)) (fun _ h9 => h9) rfl dX12_four_8 ?_
  refine lv_aload_n hx hb dX12_four_11 rfl (lv_at hl 1 rfl) ?_
  refine va_get (D := (dC, dI)) (ci := 12) (v := .int 11) (C := RX12) (T := TX12) (N := 57) hx hb hts in12 hown hK hP 0 rfl rfl 2 (by decide) (hts (.fieldLink RX12 133 "FactKeeperModel" "taped" "I") (by decide +kernel)) (fun _ h9 => h9) rfl dX12_four_12 ?_
  refine lv_iload_n hx hb dX12_four_15 rfl (lv_at hl 2 rfl) ?_
  refine lv_iload_n hx hb dX12_four_16 rfl (lv_at hl 0 rfl) ?_
  refine lv_ishr hx hb dX12_four_17 ?_
  refine lv_topi (fun z_17 ez_17 => ?_)
  obtain ⟨z_18, ez_18⟩ : ∃ y : Int32, y = (z_17 : Int32).toInt8.toInt32 := ⟨_, rfl⟩
  refine lv_i2b (v := z_18) hx hb dX12_four_18 ez_18.symm ?_
  refine va_bast hx hb hK hP hD hS 1 0 rfl rfl (by unfold vp_in; decide) dX12_four_19 (fun H locs hP hD hS => ?_)
  have hP : va_P (dC, dI) vwCl [(mo, .inr (12, [.int 0, .ref m1, .int 11, .ref m3, .ref m4, .ref m5, .ref m6, .ref m7, .ref m8, .ref m9, .int 0, .ref m11, .ref m12, .ref m13, .ref m14, .ref m15, .ref m16, .ref m17, .ref m18, .ref m19, .int 0, .int 0, .int 0, .int 0, .ref m24, .int 0, .ref m26, .int 0, .ref m28, .ref m29, .ref m30, .ref m31, .ref m32, .ref m33, .ref m34, .ref m35, .ref m36, .int 0, .int 0, .int 0, .int 0, .int 0, .int (-1), .int 0, .ref m44, .ref m45, .ref m46, .ref m47, .ref m48, .int 0, .ref m50, .ref m51, .ref m52, .ref m53, .ref m54, .int 0, .int 0])), (m1, .inl (k1, 400, .inl (upd g_14 (11 : Int32).toNatClampNeg (vp_nar .byte z_18))))] H := hP
  have hD : va_D A [(mo, .inr (12, [.int 0, .ref m1, .int 11, .ref m3, .ref m4, .ref m5, .ref m6, .ref m7, .ref m8, .ref m9, .int 0, .ref m11, .ref m12, .ref m13, .ref m14, .ref m15, .ref m16, .ref m17, .ref m18, .ref m19, .int 0, .int 0, .int 0, .int 0, .ref m24, .int 0, .ref m26, .int 0, .ref m28, .ref m29, .ref m30, .ref m31, .ref m32, .ref m33, .ref m34, .ref m35, .ref m36, .int 0, .int 0, .int 0, .int 0, .int 0, .int (-1), .int 0, .ref m44, .ref m45, .ref m46, .ref m47, .ref m48, .int 0, .ref m50, .ref m51, .ref m52, .ref m53, .ref m54, .int 0, .int 0])), (m1, .inl (k1, 400, .inl (upd g_14 (11 : Int32).toNatClampNeg (vp_nar .byte z_18))))] := hD
  obtain ⟨g_19, eg_19⟩ : ∃ g : Nat → Int32, g = (upd g_14 (11 : Int32).toNatClampNeg (vp_nar .byte z_18)) := ⟨_, rfl⟩
  rw [← eg_19] at hP hD
  have hP : va_P (dC, dI) vwCl [(mo, .inr (12, [.int 0, .ref m1, .int 11, .ref m3, .ref m4, .ref m5, .ref m6, .ref m7, .ref m8, .ref m9, .int 0, .ref m11, .ref m12, .ref m13, .ref m14, .ref m15, .ref m16, .ref m17, .ref m18, .ref m19, .int 0, .int 0, .int 0, .int 0, .ref m24, .int 0, .ref m26, .int 0, .ref m28, .ref m29, .ref m30, .ref m31, .ref m32, .ref m33, .ref m34, .ref m35, .ref m36, .int 0, .int 0, .int 0, .int 0, .int 0, .int (-1), .int 0, .ref m44, .ref m45, .ref m46, .ref m47, .ref m48, .int 0, .ref m50, .ref m51, .ref m52, .ref m53, .ref m54, .int 0, .int 0])), (m1, .inl (k1, 400, .inl g_19))] H := hP
  have hD : va_D A [(mo, .inr (12, [.int 0, .ref m1, .int 11, .ref m3, .ref m4, .ref m5, .ref m6, .ref m7, .ref m8, .ref m9, .int 0, .ref m11, .ref m12, .ref m13, .ref m14, .ref m15, .ref m16, .ref m17, .ref m18, .ref m19, .int 0, .int 0, .int 0, .int 0, .ref m24, .int 0, .ref m26, .int 0, .ref m28, .ref m29, .ref m30, .ref m31, .ref m32, .ref m33, .ref m34, .ref m35, .ref m36, .int 0, .int 0, .int 0, .int 0, .int 0, .int (-1), .int 0, .ref m44, .ref m45, .ref m46, .ref m47, .ref m48, .int 0, .ref m50, .ref m51, .ref m52, .ref m53, .ref m54, .int 0, .int 0])), (m1, .inl (k1, 400, .inl g_19))] := hD
  refine lv_aload_n hx hb dX12_four_20 rfl (lv_at hl 1 rfl) ?_
  refine lv_dup hx hb dX12_four_21 rfl ?_
  refine va_get (D := (dC, dI)) (ci := 12) (v := .int 11) (C := RX12) (T := TX12) (N := 57) hx hb hts in12 hown hK hP 0 rfl rfl 2 (by decide) (hts (.fieldLink RX12 133 "FactKeeperModel" "taped" "I") (by decide +kernel)) (fun _ h9 => h9) rfl dX12_four_22 ?_
  refine lv_iconst (v := 1) hx hb dX12_four_25 (by decide) ?_
  refine lv_iadd hx hb dX12_four_26 ?_
  refine lv_topi (fun z_20 ez_20 => ?_)
  obtain rfl : z_20 = 12 := ez_20.trans (by decide)
  refine va_put (D := (dC, dI)) (ci := 12) (v := .int 12) (ty := .int) (C := RX12) (T := TX12) (N := 57) hx hb hts in12 tyX12 tyX12_ok nmX12 hown hK hP hD hS 0 rfl rfl 2 (by decide) (hts (.fieldLink RX12 133 "FactKeeperModel" "taped" "I") (by decide +kernel)) (fun _ h9 => h9) rfl (by decide +kernel) rfl rfl (Nat.le_of_ble_eq_true rfl) dX12_four_27 (fun H locs hP hD hS => ?_)
  have hP : va_P (dC, dI) vwCl [(mo, .inr (12, [.int 0, .ref m1, .int 12, .ref m3, .ref m4, .ref m5, .ref m6, .ref m7, .ref m8, .ref m9, .int 0, .ref m11, .ref m12, .ref m13, .ref m14, .ref m15, .ref m16, .ref m17, .ref m18, .ref m19, .int 0, .int 0, .int 0, .int 0, .ref m24, .int 0, .ref m26, .int 0, .ref m28, .ref m29, .ref m30, .ref m31, .ref m32, .ref m33, .ref m34, .ref m35, .ref m36, .int 0, .int 0, .int 0, .int 0, .int 0, .int (-1), .int 0, .ref m44, .ref m45, .ref m46, .ref m47, .ref m48, .int 0, .ref m50, .ref m51, .ref m52, .ref m53, .ref m54, .int 0, .int 0])), (m1, .inl (k1, 400, .inl g_19))] H := hP
  have hD : va_D A [(mo, .inr (12, [.int 0, .ref m1, .int 12, .ref m3, .ref m4, .ref m5, .ref m6, .ref m7, .ref m8, .ref m9, .int 0, .ref m11, .ref m12, .ref m13, .ref m14, .ref m15, .ref m16, .ref m17, .ref m18, .ref m19, .int 0, .int 0, .int 0, .int 0, .ref m24, .int 0, .ref m26, .int 0, .ref m28, .ref m29, .ref m30, .ref m31, .ref m32, .ref m33, .ref m34, .ref m35, .ref m36, .int 0, .int 0, .int 0, .int 0, .int 0, .int (-1), .int 0, .ref m44, .ref m45, .ref m46, .ref m47, .ref m48, .int 0, .ref m50, .ref m51, .ref m52, .ref m53, .ref m54, .int 0, .int 0])), (m1, .inl (k1, 400, .inl g_19))] := hD
  refine lv_iinc (v := (-8)) (lv' := [(2, .int (-8)), (0, .ref mo), (1, .int fo)]) hx hb dX12_four_30 hl (k := 0) rfl (by decide) (by decide) rfl (fun ls hl => ?_)
  refine lv_goto (tgt := 3) hx hb dX12_four_33 (by decide) ?_
  refine lv_iload_n hx hb dX12_four_3 rfl (lv_at hl 0 rfl) ?_
  refine lv_if_lt (tgt := 36) hx hb dX12_four_4 (by decide) (fun _ => ?_) (fun c_21 => absurd c_21 (by decide))
  have hP9 := hP.sub (ws' := [(mo, .inr (12, [.int 0, .ref m1, .int 12, .ref m3, .ref m4, .ref m5, .ref m6, .ref m7, .ref m8, .ref m9, .int 0, .ref m11, .ref m12, .ref m13, .ref m14, .ref m15, .ref m16, .ref m17, .ref m18, .ref m19, .int 0, .int 0, .int 0, .int 0, .ref m24, .int 0, .ref m26, .int 0, .ref m28, .ref m29, .ref m30, .ref m31, .ref m32, .ref m33, .ref m34, .ref m35, .ref m36, .int 0, .int 0, .int 0, .int 0, .int 0, .int (-1), .int 0, .ref m44, .ref m45, .ref m46, .ref m47, .ref m48, .int 0, .ref m50, .ref m51, .ref m52, .ref m53, .ref m54, .int 0, .int 0])), (m1, .inl (k1, 400, .inl g_19))]) [0, 1] rfl
  have hD9 := hD.sub (ws' := [(mo, .inr (12, [.int 0, .ref m1, .int 12, .ref m3, .ref m4, .ref m5, .ref m6, .ref m7, .ref m8, .ref m9, .int 0, .ref m11, .ref m12, .ref m13, .ref m14, .ref m15, .ref m16, .ref m17, .ref m18, .ref m19, .int 0, .int 0, .int 0, .int 0, .ref m24, .int 0, .ref m26, .int 0, .ref m28, .ref m29, .ref m30, .ref m31, .ref m32, .ref m33, .ref m34, .ref m35, .ref m36, .int 0, .int 0, .int 0, .int 0, .int 0, .int (-1), .int 0, .ref m44, .ref m45, .ref m46, .ref m47, .ref m48, .int 0, .ref m50, .ref m51, .ref m52, .ref m53, .ref m54, .int 0, .int 0])), (m1, .inl (k1, 400, .inl g_19))]) [0, 1] (by decide) rfl
  have hK9 := hK.sub (tys' := [(k1, .byte)]) [0] rfl
  refine W.widen (k := 0) (n := 0) (Nat.le_of_ble_eq_true rfl) (Nat.le_of_ble_eq_true rfl) ?_
  exact (W.vret hx hb hr (fun t ht hW => ⟨⟨g_19, rfl, trivial, by rw [ht]; exact hP9, va_K.moved hW.alike hK9, hD9⟩, hS.F ht⟩) hS.2.2 dX12_four_36)

set_option maxHeartbeats 4000000 in
set_option maxRecDepth 100000 in
/-- four at 12 -/
theorem m_four12 (l : Launch) (hl0 : l.stackTraces = false) (dC : Nat → ClassId) (dI : Nat → Nat → Nat) (mo : Nat) (m1 : Nat) (m3 : Nat) (m4 : Nat) (m5 : Nat) (m6 : Nat) (m7 : Nat) (m8 : Nat) (m9 : Nat) (m11 : Nat) (m12 : Nat) (m13 : Nat) (m14 : Nat) (m15 : Nat) (m16 : Nat) (m17 : Nat) (m18 : Nat) (m19 : Nat) (m24 : Nat) (m26 : Nat) (m28 : Nat) (m29 : Nat) (m30 : Nat) (m31 : Nat) (m32 : Nat) (m33 : Nat) (m34 : Nat) (m35 : Nat) (m36 : Nat) (m44 : Nat) (m45 : Nat) (m46 : Nat) (m47 : Nat) (m48 : Nat) (m50 : Nat) (m51 : Nat) (m52 : Nat) (m53 : Nat) (m54 : Nat) (k1 : ClassId) (f : Nat → Int32) (fo : Int32) (sz : Nat)  : Met l yX12_four wsX12_four ({ frames := 0, cells := 0, slots := 0, locals := 0 } : Room) (va_Pc [.ref mo, .int fo] (ct_P (dC, dI) [(mo, .inr (12, [.int 0, .ref m1, .int 12, .ref m3, .ref m4, .ref m5, .ref m6, .ref m7, .ref m8, .ref m9, .int 0, .ref m11, .ref m12, .ref m13, .ref m14, .ref m15, .ref m16, .ref m17, .ref m18, .ref m19, .int 0, .int 0, .int 0, .int 0, .ref m24, .int 0, .ref m26, .int 0, .ref m28, .ref m29, .ref m30, .ref m31, .ref m32, .ref m33, .ref m34, .ref m35, .ref m36, .int 0, .int 0, .int 0, .int 0, .int 0, .int (-1), .int 0, .ref m44, .ref m45, .ref m46, .ref m47, .ref m48, .int 0, .ref m50, .ref m51, .ref m52, .ref m53, .ref m54, .int 0, .int 0])), (m1, .inl (k1, 400, .inl f))] [(k1, .byte)] sz)) (va_Qv (fun (u : (Nat → Int32)) => True) (fun (u : (Nat → Int32)) => ct_B (dC, dI) (va_A [(mo, .inr (12, [.int 0, .ref m1, .int 12, .ref m3, .ref m4, .ref m5, .ref m6, .ref m7, .ref m8, .ref m9, .int 0, .ref m11, .ref m12, .ref m13, .ref m14, .ref m15, .ref m16, .ref m17, .ref m18, .ref m19, .int 0, .int 0, .int 0, .int 0, .ref m24, .int 0, .ref m26, .int 0, .ref m28, .ref m29, .ref m30, .ref m31, .ref m32, .ref m33, .ref m34, .ref m35, .ref m36, .int 0, .int 0, .int 0, .int 0, .int 0, .int (-1), .int 0, .ref m44, .ref m45, .ref m46, .ref m47, .ref m48, .int 0, .ref m50, .ref m51, .ref m52, .ref m53, .ref m54, .int 0, .int 0])), (m1, .inl (k1, 400, .inl f))] sz) [(mo, .inr (12, [.int 0, .ref m1, .int 16, .ref m3, .ref m4, .ref m5, .ref m6, .ref m7, .ref m8, .ref m9, .int 0, .ref m11, .ref m12, .ref m13, .ref m14, .ref m15, .ref m16, .ref m17, .ref m18, .ref m19, .int 0, .int 0, .int 0, .int 0, .ref m24, .int 0, .ref m26, .int 0, .ref m28, .ref m29, .ref m30, .ref m31, .ref m32, .ref m33, .ref m34, .ref m35, .ref m36, .int 0, .int 0, .int 0, .int 0, .int 0, .int (-1), .int 0, .ref m44, .ref m45, .ref m46, .ref m47, .ref m48, .int 0, .ref m50, .ref m51, .ref m52, .ref m53, .ref m54, .int 0, .int 0])), (m1, .inl (k1, 400, .inl u))] [(k1, .byte)]) (va_A [(mo, .inr (12, [.int 0, .ref m1, .int 12, .ref m3, .ref m4, .ref m5, .ref m6, .ref m7, .ref m8, .ref m9, .int 0, .ref m11, .ref m12, .ref m13, .ref m14, .ref m15, .ref m16, .ref m17, .ref m18, .ref m19, .int 0, .int 0, .int 0, .int 0, .ref m24, .int 0, .ref m26, .int 0, .ref m28, .ref m29, .ref m30, .ref m31, .ref m32, .ref m33, .ref m34, .ref m35, .ref m36, .int 0, .int 0, .int 0, .int 0, .int 0, .int (-1), .int 0, .ref m44, .ref m45, .ref m46, .ref m47, .ref m48, .int 0, .ref m50, .ref m51, .ref m52, .ref m53, .ref m54, .int 0, .int 0])), (m1, .inl (k1, 400, .inl f))] sz)) 0 0 (va_A [(mo, .inr (12, [.int 0, .ref m1, .int 12, .ref m3, .ref m4, .ref m5, .ref m6, .ref m7, .ref m8, .ref m9, .int 0, .ref m11, .ref m12, .ref m13, .ref m14, .ref m15, .ref m16, .ref m17, .ref m18, .ref m19, .int 0, .int 0, .int 0, .int 0, .ref m24, .int 0, .ref m26, .int 0, .ref m28, .ref m29, .ref m30, .ref m31, .ref m32, .ref m33, .ref m34, .ref m35, .ref m36, .int 0, .int 0, .int 0, .int 0, .int 0, .int (-1), .int 0, .ref m44, .ref m45, .ref m46, .ref m47, .ref m48, .int 0, .ref m50, .ref m51, .ref m52, .ref m53, .ref m54, .int 0, .int 0])), (m1, .inl (k1, 400, .inl f))] sz) := by
  refine Met.ofW (cc := cX12_four) (maxL := 3) (ret := none) (by decide) rfl ?_
  intro p e s m args below meth c s₁ B hml hv
  obtain ⟨rfl, hsz, hP, hK, hD0, hZ⟩ := hv
  have hx := B.exec
  have hb := B.bytes
  have hr := B.returns
  have hts := atoms_spec (ws := wsX12_four) B.pre
  have hown : s.vm.findClass RX12 = some m.cls := findClass_of_methodNamed B.named
  have hlocks := B.notSynchronized
  have in12 : ∀ w ∈ u_ws RX12 TX12 57, w ∈ wsX12_four := fun w h => (List.mem_cons_of_mem _ (List.mem_append_right _ h))
  subst hsz
  have hD := hD0.self (sz := s.heap.size)
  generalize hAe : va_A [(mo, .inr (12, [.int 0, .ref m1, .int 12, .ref m3, .ref m4, .ref m5, .ref m6, .ref m7, .ref m8, .ref m9, .int 0, .ref m11, .ref m12, .ref m13, .ref m14, .ref m15, .ref m16, .ref m17, .ref m18, .ref m19, .int 0, .int 0, .int 0, .int 0, .ref m24, .int 0, .ref m26, .int 0, .ref m28, .ref m29, .ref m30, .ref m31, .ref m32, .ref m33, .ref m34, .ref m35, .ref m36, .int 0, .int 0, .int 0, .int 0, .int 0, .int (-1), .int 0, .ref m44, .ref m45, .ref m46, .ref m47, .ref m48, .int 0, .ref m50, .ref m51, .ref m52, .ref m53, .ref m54, .int 0, .int 0])), (m1, .inl (k1, 400, .inl f))] s.heap.size = A at hD hZ ⊢
  have hA : ∀ q : Nat, s.heap.size ≤ q → A q := fun q h => by rw [← hAe]; exact Or.inr h
  have hS : va_S A s.heap s.heap [] := va_S.rf
  have hP : va_P (dC, dI) vwCl [(mo, .inr (12, [.int 0, .ref m1, .int 12, .ref m3, .ref m4, .ref m5, .ref m6, .ref m7, .ref m8, .ref m9, .int 0, .ref m11, .ref m12, .ref m13, .ref m14, .ref m15, .ref m16, .ref m17, .ref m18, .ref m19, .int 0, .int 0, .int 0, .int 0, .ref m24, .int 0, .ref m26, .int 0, .ref m28, .ref m29, .ref m30, .ref m31, .ref m32, .ref m33, .ref m34, .ref m35, .ref m36, .int 0, .int 0, .int 0, .int 0, .int 0, .int (-1), .int 0, .ref m44, .ref m45, .ref m46, .ref m47, .ref m48, .int 0, .ref m50, .ref m51, .ref m52, .ref m53, .ref m54, .int 0, .int 0])), (m1, .inl (k1, 400, .inl f))] s.heap := hP
  have hK : va_K (dC, dI) vwCl [(k1, .byte)] s := hK
  have hD : va_D A [(mo, .inr (12, [.int 0, .ref m1, .int 12, .ref m3, .ref m4, .ref m5, .ref m6, .ref m7, .ref m8, .ref m9, .int 0, .ref m11, .ref m12, .ref m13, .ref m14, .ref m15, .ref m16, .ref m17, .ref m18, .ref m19, .int 0, .int 0, .int 0, .int 0, .ref m24, .int 0, .ref m26, .int 0, .ref m28, .ref m29, .ref m30, .ref m31, .ref m32, .ref m33, .ref m34, .ref m35, .ref m36, .int 0, .int 0, .int 0, .int 0, .int 0, .int (-1), .int 0, .ref m44, .ref m45, .ref m46, .ref m47, .ref m48, .int 0, .ref m50, .ref m51, .ref m52, .ref m53, .ref m54, .int 0, .int 0])), (m1, .inl (k1, 400, .inl f))] := hD
  have hl := lv_entry ([.ref mo, .int fo]) (n := 3) (Nat.le_of_ble_eq_true rfl)
  rw [lg_entry_eq]
  generalize (lg_sl ([.ref mo, .int fo]) ++ List.replicate (3 - (lg_sl ([.ref mo, .int fo])).length) Slot.unset).toArray = ls at hl ⊢
  have hl : lv_has ls 3 [(0, .ref mo), (1, .int fo)] := hl
  refine lv_bipush (v := 24) hx hb dX12_four_0 (by decide) ?_
  refine lv_istore_n (lv' := [(2, .int 24), (0, .ref mo), (1, .int fo)]) hx hb dX12_four_2 rfl hl (by decide) rfl (fun ls hl => ?_)
  refine lv_iload_n hx hb dX12_four_3 rfl (lv_at hl 0 rfl) ?_
  refine lv_if_lt (tgt := 36) hx hb dX12_four_4 (by decide) (fun c_1 => absurd c_1 (by decide)) (fun _ => ?_)
  refine lv_aload_n hx hb dX12_four_7 rfl (lv_at hl 1 rfl) ?_
  refine va_get (D := (dC, dI)) (ci := 12) (v := .ref m1) (C := RX12) (T := TX12) (N := 57) hx hb hts in12 hown hK hP 0 rfl rfl 1 (by decide) (hts (.fieldLink RX12 13 "FactKeeperModel" "tape" "[B") (by decide +kernel)) (fun _ h9 => h9) rfl dX12_four_8 ?_
  refine lv_aload_n hx hb dX12_four_11 rfl (lv_at hl 1 rfl) ?_
  refine va_get (D := (dC, dI)) (ci := 12) (v := .int 12) (C := RX12) (T := TX12) (N := 57) hx hb hts in12 hown hK hP 0 rfl rfl 2 (by decide) (hts (.fieldLink RX12 133 "FactKeeperModel" "taped" "I") (by decide +kernel)) (fun _ h9 => h9) rfl dX12_four_12 ?_
  refine lv_iload_n hx hb dX12_four_15 rfl (lv_at hl 2 rfl) ?_
  refine lv_iload_n hx hb dX12_four_16 rfl (lv_at hl 0 rfl) ?_
  refine lv_ishr hx hb dX12_four_17 ?_
  refine lv_topi (fun z_2 ez_2 => ?_)
  obtain ⟨z_3, ez_3⟩ : ∃ y : Int32, y = (z_2 : Int32).toInt8.toInt32 := ⟨_, rfl⟩
  refine lv_i2b (v := z_3) hx hb dX12_four_18 ez_3.symm ?_
  refine va_bast hx hb hK hP hD hS 1 0 rfl rfl (by unfold vp_in; decide) dX12_four_19 (fun H locs hP hD hS => ?_)
  have hP : va_P (dC, dI) vwCl [(mo, .inr (12, [.int 0, .ref m1, .int 12, .ref m3, .ref m4, .ref m5, .ref m6, .ref m7, .ref m8, .ref m9, .int 0, .ref m11, .ref m12, .ref m13, .ref m14, .ref m15, .ref m16, .ref m17, .ref m18, .ref m19, .int 0, .int 0, .int 0, .int 0, .ref m24, .int 0, .ref m26, .int 0, .ref m28, .ref m29, .ref m30, .ref m31, .ref m32, .ref m33, .ref m34, .ref m35, .ref m36, .int 0, .int 0, .int 0, .int 0, .int 0, .int (-1), .int 0, .ref m44, .ref m45, .ref m46, .ref m47, .ref m48, .int 0, .ref m50, .ref m51, .ref m52, .ref m53, .ref m54, .int 0, .int 0])), (m1, .inl (k1, 400, .inl (upd f (12 : Int32).toNatClampNeg (vp_nar .byte z_3))))] H := hP
  have hD : va_D A [(mo, .inr (12, [.int 0, .ref m1, .int 12, .ref m3, .ref m4, .ref m5, .ref m6, .ref m7, .ref m8, .ref m9, .int 0, .ref m11, .ref m12, .ref m13, .ref m14, .ref m15, .ref m16, .ref m17, .ref m18, .ref m19, .int 0, .int 0, .int 0, .int 0, .ref m24, .int 0, .ref m26, .int 0, .ref m28, .ref m29, .ref m30, .ref m31, .ref m32, .ref m33, .ref m34, .ref m35, .ref m36, .int 0, .int 0, .int 0, .int 0, .int 0, .int (-1), .int 0, .ref m44, .ref m45, .ref m46, .ref m47, .ref m48, .int 0, .ref m50, .ref m51, .ref m52, .ref m53, .ref m54, .int 0, .int 0])), (m1, .inl (k1, 400, .inl (upd f (12 : Int32).toNatClampNeg (vp_nar .byte z_3))))] := hD
  obtain ⟨g_4, eg_4⟩ : ∃ g : Nat → Int32, g = (upd f (12 : Int32).toNatClampNeg (vp_nar .byte z_3)) := ⟨_, rfl⟩
  rw [← eg_4] at hP hD
  have hP : va_P (dC, dI) vwCl [(mo, .inr (12, [.int 0, .ref m1, .int 12, .ref m3, .ref m4, .ref m5, .ref m6, .ref m7, .ref m8, .ref m9, .int 0, .ref m11, .ref m12, .ref m13, .ref m14, .ref m15, .ref m16, .ref m17, .ref m18, .ref m19, .int 0, .int 0, .int 0, .int 0, .ref m24, .int 0, .ref m26, .int 0, .ref m28, .ref m29, .ref m30, .ref m31, .ref m32, .ref m33, .ref m34, .ref m35, .ref m36, .int 0, .int 0, .int 0, .int 0, .int 0, .int (-1), .int 0, .ref m44, .ref m45, .ref m46, .ref m47, .ref m48, .int 0, .ref m50, .ref m51, .ref m52, .ref m53, .ref m54, .int 0, .int 0])), (m1, .inl (k1, 400, .inl g_4))] H := hP
  have hD : va_D A [(mo, .inr (12, [.int 0, .ref m1, .int 12, .ref m3, .ref m4, .ref m5, .ref m6, .ref m7, .ref m8, .ref m9, .int 0, .ref m11, .ref m12, .ref m13, .ref m14, .ref m15, .ref m16, .ref m17, .ref m18, .ref m19, .int 0, .int 0, .int 0, .int 0, .ref m24, .int 0, .ref m26, .int 0, .ref m28, .ref m29, .ref m30, .ref m31, .ref m32, .ref m33, .ref m34, .ref m35, .ref m36, .int 0, .int 0, .int 0, .int 0, .int 0, .int (-1), .int 0, .ref m44, .ref m45, .ref m46, .ref m47, .ref m48, .int 0, .ref m50, .ref m51, .ref m52, .ref m53, .ref m54, .int 0, .int 0])), (m1, .inl (k1, 400, .inl g_4))] := hD
  refine lv_aload_n hx hb dX12_four_20 rfl (lv_at hl 1 rfl) ?_
  refine lv_dup hx hb dX12_four_21 rfl ?_
  refine va_get (D := (dC, dI)) (ci := 12) (v := .int 12) (C := RX12) (T := TX12) (N := 57) hx hb hts in12 hown hK hP 0 rfl rfl 2 (by decide) (hts (.fieldLink RX12 133 "FactKeeperModel" "taped" "I") (by decide +kernel)) (fun _ h9 => h9) rfl dX12_four_22 ?_
  refine lv_iconst (v := 1) hx hb dX12_four_25 (by decide) ?_
  refine lv_iadd hx hb dX12_four_26 ?_
  refine lv_topi (fun z_5 ez_5 => ?_)
  obtain rfl : z_5 = 13 := ez_5.trans (by decide)
  refine va_put (D := (dC, dI)) (ci := 12) (v := .int 13) (ty := .int) (C := RX12) (T := TX12) (N := 57) hx hb hts in12 tyX12 tyX12_ok nmX12 hown hK hP hD hS 0 rfl rfl 2 (by decide) (hts (.fieldLink RX12 133 "FactKeeperModel" "taped" "I") (by decide +kernel)) (fun _ h9 => h9) rfl (by decide +kernel) rfl rfl (Nat.le_of_ble_eq_true rfl) dX12_four_27 (fun H locs hP hD hS => ?_)
  have hP : va_P (dC, dI) vwCl [(mo, .inr (12, [.int 0, .ref m1, .int 13, .ref m3, .ref m4, .ref m5, .ref m6, .ref m7, .ref m8, .ref m9, .int 0, .ref m11, .ref m12, .ref m13, .ref m14, .ref m15, .ref m16, .ref m17, .ref m18, .ref m19, .int 0, .int 0, .int 0, .int 0, .ref m24, .int 0, .ref m26, .int 0, .ref m28, .ref m29, .ref m30, .ref m31, .ref m32, .ref m33, .ref m34, .ref m35, .ref m36, .int 0, .int 0, .int 0, .int 0, .int 0, .int (-1), .int 0, .ref m44, .ref m45, .ref m46, .ref m47, .ref m48, .int 0, .ref m50, .ref m51, .ref m52, .ref m53, .ref m54, .int 0, .int 0])), (m1, .inl (k1, 400, .inl g_4))] H := hP
  have hD : va_D A [(mo, .inr (12, [.int 0, .ref m1, .int 13, .ref m3, .ref m4, .ref m5, .ref m6, .ref m7, .ref m8, .ref m9, .int 0, .ref m11, .ref m12, .ref m13, .ref m14, .ref m15, .ref m16, .ref m17, .ref m18, .ref m19, .int 0, .int 0, .int 0, .int 0, .ref m24, .int 0, .ref m26, .int 0, .ref m28, .ref m29, .ref m30, .ref m31, .ref m32, .ref m33, .ref m34, .ref m35, .ref m36, .int 0, .int 0, .int 0, .int 0, .int 0, .int (-1), .int 0, .ref m44, .ref m45, .ref m46, .ref m47, .ref m48, .int 0, .ref m50, .ref m51, .ref m52, .ref m53, .ref m54, .int 0, .int 0])), (m1, .inl (k1, 400, .inl g_4))] := hD
  refine lv_iinc (v := 16) (lv' := [(2, .int 16), (0, .ref mo), (1, .int fo)]) hx hb dX12_four_30 hl (k := 0) rfl (by decide) (by decide) rfl (fun ls hl => ?_)
  refine lv_goto (tgt := 3) hx hb dX12_four_33 (by decide) ?_
  refine lv_iload_n hx hb dX12_four_3 rfl (lv_at hl 0 rfl) ?_
  refine lv_if_lt (tgt := 36) hx hb dX12_four_4 (by decide) (fun c_6 => absurd c_6 (by decide)) (fun _ => ?_)
  refine lv_aload_n hx hb dX12_four_7 rfl (lv_at hl 1 rfl) ?_
  refine va_get (D := (dC, dI)) (ci := 12) (v := .ref m1) (C := RX12) (T := TX12) (N := 57) hx hb hts in12 hown hK hP 0 rfl rfl 1 (by decide) (hts (.fieldLink RX12 13 "FactKeeperModel" "tape" "[B") (by decide +kernel)) (fun _ h9 => h9) rfl dX12_four_8 ?_
  refine lv_aload_n hx hb dX12_four_11 rfl (lv_at hl 1 rfl) ?_
  refine va_get (D := (dC, dI)) (ci := 12) (v := .int 13) (C := RX12) (T := TX12) (N := 57) hx hb hts in12 hown hK hP 0 rfl rfl 2 (by decide) (hts (.fieldLink RX12 133 "FactKeeperModel" "taped" "I") (by decide +kernel)) (fun _ h9 => h9) rfl dX12_four_12 ?_
  refine lv_iload_n hx hb dX12_four_15 rfl (lv_at hl 2 rfl) ?_
  refine lv_iload_n hx hb dX12_four_16 rfl (lv_at hl 0 rfl) ?_
  refine lv_ishr hx hb dX12_four_17 ?_
  refine lv_topi (fun z_7 ez_7 => ?_)
  obtain ⟨z_8, ez_8⟩ : ∃ y : Int32, y = (z_7 : Int32).toInt8.toInt32 := ⟨_, rfl⟩
  refine lv_i2b (v := z_8) hx hb dX12_four_18 ez_8.symm ?_
  refine va_bast hx hb hK hP hD hS 1 0 rfl rfl (by unfold vp_in; decide) dX12_four_19 (fun H locs hP hD hS => ?_)
  have hP : va_P (dC, dI) vwCl [(mo, .inr (12, [.int 0, .ref m1, .int 13, .ref m3, .ref m4, .ref m5, .ref m6, .ref m7, .ref m8, .ref m9, .int 0, .ref m11, .ref m12, .ref m13, .ref m14, .ref m15, .ref m16, .ref m17, .ref m18, .ref m19, .int 0, .int 0, .int 0, .int 0, .ref m24, .int 0, .ref m26, .int 0, .ref m28, .ref m29, .ref m30, .ref m31, .ref m32, .ref m33, .ref m34, .ref m35, .ref m36, .int 0, .int 0, .int 0, .int 0, .int 0, .int (-1), .int 0, .ref m44, .ref m45, .ref m46, .ref m47, .ref m48, .int 0, .ref m50, .ref m51, .ref m52, .ref m53, .ref m54, .int 0, .int 0])), (m1, .inl (k1, 400, .inl (upd g_4 (13 : Int32).toNatClampNeg (vp_nar .byte z_8))))] H := hP
  have hD : va_D A [(mo, .inr (12, [.int 0, .ref m1, .int 13, .ref m3, .ref m4, .ref m5, .ref m6, .ref m7, .ref m8, .ref m9, .int 0, .ref m11, .ref m12, .ref m13, .ref m14, .ref m15, .ref m16, .ref m17, .ref m18, .ref m19, .int 0, .int 0, .int 0, .int 0, .ref m24, .int 0, .ref m26, .int 0, .ref m28, .ref m29, .ref m30, .ref m31, .ref m32, .ref m33, .ref m34, .ref m35, .ref m36, .int 0, .int 0, .int 0, .int 0, .int 0, .int (-1), .int 0, .ref m44, .ref m45, .ref m46, .ref m47, .ref m48, .int 0, .ref m50, .ref m51, .ref m52, .ref m53, .ref m54, .int 0, .int 0])), (m1, .inl (k1, 400, .inl (upd g_4 (13 : Int32).toNatClampNeg (vp_nar .byte z_8))))] := hD
  obtain ⟨g_9, eg_9⟩ : ∃ g : Nat → Int32, g = (upd g_4 (13 : Int32).toNatClampNeg (vp_nar .byte z_8)) := ⟨_, rfl⟩
  rw [← eg_9] at hP hD
  have hP : va_P (dC, dI) vwCl [(mo, .inr (12, [.int 0, .ref m1, .int 13, .ref m3, .ref m4, .ref m5, .ref m6, .ref m7, .ref m8, .ref m9, .int 0, .ref m11, .ref m12, .ref m13, .ref m14, .ref m15, .ref m16, .ref m17, .ref m18, .ref m19, .int 0, .int 0, .int 0, .int 0, .ref m24, .int 0, .ref m26, .int 0, .ref m28, .ref m29, .ref m30, .ref m31, .ref m32, .ref m33, .ref m34, .ref m35, .ref m36, .int 0, .int 0, .int 0, .int 0, .int 0, .int (-1), .int 0, .ref m44, .ref m45, .ref m46, .ref m47, .ref m48, .int 0, .ref m50, .ref m51, .ref m52, .ref m53, .ref m54, .int 0, .int 0])), (m1, .inl (k1, 400, .inl g_9))] H := hP
  have hD : va_D A [(mo, .inr (12, [.int 0, .ref m1, .int 13, .ref m3, .ref m4, .ref m5, .ref m6, .ref m7, .ref m8, .ref m9, .int 0, .ref m11, .ref m12, .ref m13, .ref m14, .ref m15, .ref m16, .ref m17, .ref m18, .ref m19, .int 0, .int 0, .int 0, .int 0, .ref m24, .int 0, .ref m26, .int 0, .ref m28, .ref m29, .ref m30, .ref m31, .ref m32, .ref m33, .ref m34, .ref m35, .ref m36, .int 0, .int 0, .int 0, .int 0, .int 0, .int (-1), .int 0, .ref m44, .ref m45, .ref m46, .ref m47, .ref m48, .int 0, .ref m50, .ref m51, .ref m52, .ref m53, .ref m54, .int 0, .int 0])), (m1, .inl (k1, 400, .inl g_9))] := hD
  refine lv_aload_n hx hb dX12_four_20 rfl (lv_at hl 1 rfl) ?_
  refine lv_dup hx hb dX12_four_21 rfl ?_
  refine va_get (D := (dC, dI)) (ci := 12) (v := .int 13) (C := RX12) (T := TX12) (N := 57) hx hb hts in12 hown hK hP 0 rfl rfl 2 (by decide) (hts (.fieldLink RX12 133 "FactKeeperModel" "taped" "I") (by decide +kernel)) (fun _ h9 => h9) rfl dX12_four_22 ?_
  refine lv_iconst (v := 1) hx hb dX12_four_25 (by decide) ?_
  refine lv_iadd hx hb dX12_four_26 ?_
  refine lv_topi (fun z_10 ez_10 => ?_)
  obtain rfl : z_10 = 14 := ez_10.trans (by decide)
  refine va_put (D := (dC, dI)) (ci := 12) (v := .int 14) (ty := .int) (C := RX12) (T := TX12) (N := 57) hx hb hts in12 tyX12 tyX12_ok nmX12 hown hK hP hD hS 0 rfl rfl 2 (by decide) (hts (.fieldLink RX12 133 "FactKeeperModel" "taped" "I") (by decide +kernel)) (fun _ h9 => h9) rfl (by decide +kernel) rfl rfl (Nat.le_of_ble_eq_true rfl) dX12_four_27 (fun H locs hP hD hS => ?_)
  have hP : va_P (dC, dI) vwCl [(mo, .inr (12, [.int 0, .ref m1, .int 14, .ref m3, .ref m4, .ref m5, .ref m6, .ref m7, .ref m8, .ref m9, .int 0, .ref m11, .ref m12, .ref m13, .ref m14, .ref m15, .ref m16, .ref m17, .ref m18, .ref m19, .int 0, .int 0, .int 0, .int 0, .ref m24, .int 0, .ref m26, .int 0, .ref m28, .ref m29, .ref m30, .ref m31, .ref m32, .ref m33, .ref m34, .ref m35, .ref m36, .int 0, .int 0, .int 0, .int 0, .int 0, .int (-1), .int 0, .ref m44, .ref m45, .ref m46, .ref m47, .ref m48, .int 0, .ref m50, .ref m51, .ref m52, .ref m53, .ref m54, .int 0, .int 0])), (m1, .inl (k1, 400, .inl g_9))] H := hP
  have hD : va_D A [(mo, .inr (12, [.int 0, .ref m1, .int 14, .ref m3, .ref m4, .ref m5, .ref m6, .ref m7, .ref m8, .ref m9, .int 0, .ref m11, .ref m12, .ref m13, .ref m14, .ref m15, .ref m16, .ref m17, .ref m18, .ref m19, .int 0, .int 0, .int 0, .int 0, .ref m24, .int 0, .ref m26, .int 0, .ref m28, .ref m29, .ref m30, .ref m31, .ref m32, .ref m33, .ref m34, .ref m35, .ref m36, .int 0, .int 0, .int 0, .int 0, .int 0, .int (-1), .int 0, .ref m44, .ref m45, .ref m46, .ref m47, .ref m48, .int 0, .ref m50, .ref m51, .ref m52, .ref m53, .ref m54, .int 0, .int 0])), (m1, .inl (k1, 400, .inl g_9))] := hD
  refine lv_iinc (v := 8) (lv' := [(2, .int 8), (0, .ref mo), (1, .int fo)]) hx hb dX12_four_30 hl (k := 0) rfl (by decide) (by decide) rfl (fun ls hl => ?_)
  refine lv_goto (tgt := 3) hx hb dX12_four_33 (by decide) ?_
  refine lv_iload_n hx hb dX12_four_3 rfl (lv_at hl 0 rfl) ?_
  refine lv_if_lt (tgt := 36) hx hb dX12_four_4 (by decide) (fun c_11 => absurd c_11 (by decide)) (fun _ => ?_)
  refine lv_aload_n hx hb dX12_four_7 rfl (lv_at hl 1 rfl) ?_
  refine va_get (D := (dC, dI)) (ci := 12) (v := .ref m1) (C := RX12) (T := TX12) (N := 57) hx hb hts in12 hown hK hP 0 rfl rfl 1 (by decide) (hts (.fieldLink RX12 13 "FactKeeperModel" "tape" "[B") (by decide +kernel)) (fun _ h9 => h9) rfl dX12_four_8 ?_
  refine lv_aload_n hx hb dX12_four_11 rfl (lv_at hl 1 rfl) ?_
  refine va_get (D := (dC, dI)) (ci := 12) (v := .int 14) (C := RX12) (T := TX12) (N := 57) hx hb hts in12 hown hK hP 0 rfl rfl 2 (by decide) (hts (.fieldLink RX12 133 "FactKeeperModel" "taped" "I") (by decide +kernel)) (fun _ h9 => h9) rfl dX12_four_12 ?_
  refine lv_iload_n hx hb dX12_four_15 rfl (lv_at hl 2 rfl) ?_
  refine lv_iload_n hx hb dX12_four_16 rfl (lv_at hl 0 rfl) ?_
  refine lv_ishr hx hb dX12_four_17 ?_
  refine lv_topi (fun z_12 ez_12 => ?_)
  obtain ⟨z_13, ez_13⟩ : ∃ y : Int32, y = (z_12 : Int32).toInt8.toInt32 := ⟨_, rfl⟩
  refine lv_i2b (v := z_13) hx hb dX12_four_18 ez_13.symm ?_
  refine va_bast hx hb hK hP hD hS 1 0 rfl rfl (by unfold vp_in; decide) dX12_four_19 (fun H locs hP hD hS => ?_)
  have hP : va_P (dC, dI) vwCl [(mo, .inr (12, [.int 0, .ref m1, .int 14, .ref m3, .ref m4, .ref m5, .ref m6, .ref m7, .ref m8, .ref m9, .int 0, .ref m11, .ref m12, .ref m13, .ref m14, .ref m15, .ref m16, .ref m17, .ref m18, .ref m19, .int 0, .int 0, .int 0, .int 0, .ref m24, .int 0, .ref m26, .int 0, .ref m28, .ref m29, .ref m30, .ref m31, .ref m32, .ref m33, .ref m34, .ref m35, .ref m36, .int 0, .int 0, .int 0, .int 0, .int 0, .int (-1), .int 0, .ref m44, .ref m45, .ref m46, .ref m47, .ref m48, .int 0, .ref m50, .ref m51, .ref m52, .ref m53, .ref m54, .int 0, .int 0])), (m1, .inl (k1, 400, .inl (upd g_9 (14 : Int32).toNatClampNeg (vp_nar .byte z_13))))] H := hP
  have hD : va_D A [(mo, .inr (12, [.int 0, .ref m1, .int 14, .ref m3, .ref m4, .ref m5, .ref m6, .ref m7, .ref m8, .ref m9, .int 0, .ref m11, .ref m12, .ref m13, .ref m14, .ref m15, .ref m16, .ref m17, .ref m18, .ref m19, .int 0, .int 0, .int 0, .int 0, .ref m24, .int 0, .ref m26, .int 0, .ref m28, .ref m29, .ref m30, .ref m31, .ref m32, .ref m33, .ref m34, .ref m35, .ref m36, .int 0, .int 0, .int 0, .int 0, .int 0, .int (-1), .int 0, .ref m44, .ref m45, .ref m46, .ref m47, .ref m48, .int 0, .ref m50, .ref m51, .ref m52, .ref m53, .ref m54, .int 0, .int 0])), (m1, .inl (k1, 400, .inl (upd g_9 (14 : Int32).toNatClampNeg (vp_nar .byte z_13))))] := hD
  obtain ⟨g_14, eg_14⟩ : ∃ g : Nat → Int32, g = (upd g_9 (14 : Int32).toNatClampNeg (vp_nar .byte z_13)) := ⟨_, rfl⟩
  rw [← eg_14] at hP hD
  have hP : va_P (dC, dI) vwCl [(mo, .inr (12, [.int 0, .ref m1, .int 14, .ref m3, .ref m4, .ref m5, .ref m6, .ref m7, .ref m8, .ref m9, .int 0, .ref m11, .ref m12, .ref m13, .ref m14, .ref m15, .ref m16, .ref m17, .ref m18, .ref m19, .int 0, .int 0, .int 0, .int 0, .ref m24, .int 0, .ref m26, .int 0, .ref m28, .ref m29, .ref m30, .ref m31, .ref m32, .ref m33, .ref m34, .ref m35, .ref m36, .int 0, .int 0, .int 0, .int 0, .int 0, .int (-1), .int 0, .ref m44, .ref m45, .ref m46, .ref m47, .ref m48, .int 0, .ref m50, .ref m51, .ref m52, .ref m53, .ref m54, .int 0, .int 0])), (m1, .inl (k1, 400, .inl g_14))] H := hP
  have hD : va_D A [(mo, .inr (12, [.int 0, .ref m1, .int 14, .ref m3, .ref m4, .ref m5, .ref m6, .ref m7, .ref m8, .ref m9, .int 0, .ref m11, .ref m12, .ref m13, .ref m14, .ref m15, .ref m16, .ref m17, .ref m18, .ref m19, .int 0, .int 0, .int 0, .int 0, .ref m24, .int 0, .ref m26, .int 0, .ref m28, .ref m29, .ref m30, .ref m31, .ref m32, .ref m33, .ref m34, .ref m35, .ref m36, .int 0, .int 0, .int 0, .int 0, .int 0, .int (-1), .int 0, .ref m44, .ref m45, .ref m46, .ref m47, .ref m48, .int 0, .ref m50, .ref m51, .ref m52, .ref m53, .ref m54, .int 0, .int 0])), (m1, .inl (k1, 400, .inl g_14))] := hD
  refine lv_aload_n hx hb dX12_four_20 rfl (lv_at hl 1 rfl) ?_
  refine lv_dup hx hb dX12_four_21 rfl ?_
  refine va_get (D := (dC, dI)) (ci := 12) (v := .int 14) (C := RX12) (T := TX12) (N := 57) hx hb hts in12 hown hK hP 0 rfl rfl 2 (by decide) (hts (.fieldLink RX12 133 "FactKeeperModel" "taped" "I") (by decide +kernel)) (fun _ h9 => h9) rfl dX12_four_22 ?_
  refine lv_iconst (v := 1) hx hb dX12_four_25 (by decide) ?_
  refine lv_iadd hx hb dX12_four_26 ?_
  refine lv_topi (fun z_15 ez_15 => ?_)
  obtain rfl : z_15 = 15 := ez_15.trans (by decide)
  refine va_put (D := (dC, dI)) (ci := 12) (v := .int 15) (ty := .int) (C := RX12) (T := TX12) (N := 57) hx hb hts in12 tyX12 tyX12_ok nmX12 hown hK hP hD hS 0 rfl rfl 2 (by decide) (hts (.fieldLink RX12 133 "FactKeeperModel" "taped" "I") (by decide +kernel)) (fun _ h9 => h9) rfl (by decide +kernel) rfl rfl (Nat.le_of_ble_eq_true rfl) dX12_four_27 (fun H locs hP hD hS => ?_)
  have hP : va_P (dC, dI) vwCl [(mo, .inr (12, [.int 0, .ref m1, .int 15, .ref m3, .ref m4, .ref m5, .ref m6, .ref m7, .ref m8, .ref m9, .int 0, .ref m11, .ref m12, .ref m13, .ref m14, .ref m15, .ref m16, .ref m17, .ref m18, .ref m19, .int 0, .int 0, .int 0, .int 0, .ref m24, .int 0, .ref m26, .int 0, .ref m28, .ref m29, .ref m30, .ref m31, .ref m32, .ref m33, .ref m34, .ref m35, .ref m36, .int 0, .int 0, .int 0, .int 0, .int 0, .int (-1), .int 0, .ref m44, .ref m45, .ref m46, .ref m47, .ref m48, .int 0, .ref m50, .ref m51, .ref m52, .ref m53, .ref m54, .int 0, .int 0])), (m1, .inl (k1, 400, .inl g_14))] H := hP
  have hD : va_D A [(mo, .inr (12, [.int 0, .ref m1, .int 15, .ref m3, .ref m4, .ref m5, .ref m6, .ref m7, .ref m8, .ref m9, .int 0, .ref m11, .ref m12, .ref m13, .ref m14, .ref m15, .ref m16, .ref m17, .ref m18, .ref m19, .int 0, .int 0, .int 0, .int 0, .ref m24, .int 0, .ref m26, .int 0, .ref m28, .ref m29, .ref m30, .ref m31, .ref m32, .ref m33, .ref m34, .ref m35, .ref m36, .int 0, .int 0, .int 0, .int 0, .int 0, .int (-1), .int 0, .ref m44, .ref m45, .ref m46, .ref m47, .ref m48, .int 0, .ref m50, .ref m51, .ref m52, .ref m53, .ref m54, .int 0, .int 0])), (m1, .inl (k1, 400, .inl g_14))] := hD
  refine lv_iinc (v := 0) (lv' := [(2, .int 0), (0, .ref mo), (1, .int fo)]) hx hb dX12_four_30 hl (k := 0) rfl (by decide) (by decide) rfl (fun ls hl => ?_)
  refine lv_goto (tgt := 3) hx hb dX12_four_33 (by decide) ?_
  refine lv_iload_n hx hb dX12_four_3 rfl (lv_at hl 0 rfl) ?_
  refine lv_if_lt (tgt := 36) hx hb dX12_four_4 (by decide) (fun c_16 => absurd c_16 (by decide)) (fun _ => ?_)
  refine lv_aload_n hx hb dX12_four_7 rfl (lv_at hl 1 rfl) ?_
  refine va_get (D := (dC, dI)) (ci := 12) (v := .ref m1) (C := RX12) (T := TX12) (N := 57) hx hb hts in12 hown hK hP 0 rfl rfl 1 (by decide) (hts (.fieldLink RX12 13 "FactKeeperModel" "tape" "[B") (by decide +kernel)) (fun _ h9 => h9) rfl dX12_four_8 ?_
  refine lv_aload_n hx hb dX12_four_11 rfl (lv_at hl 1 rfl) ?_
  refine va_get (D := (dC, dI)) (ci := 12) (v := .int 15) (C := RX12) (T := TX12) (N := 57) hx hb hts in12 hown hK hP 0 rfl rfl 2 (by decide) (hts (.fieldLink RX12 133 "FactKeeperModel" "taped" "I") (by decide +kernel)) (fun _ h9 => h9) rfl dX12_four_12 ?_
  refine lv_iload_n hx hb dX12_four_15 rfl (lv_at hl 2 rfl) ?_
  refine lv_iload_n hx hb dX12_four_16 rfl (lv_at hl 0 rfl) ?_
  refine lv_ishr hx hb dX12_four_17 ?_
  refine lv_topi (fun z_17 ez_17 => ?_)
  obtain ⟨z_18, ez_18⟩ : ∃ y : Int32, y = (z_17 : Int32).toInt8.toInt32 := ⟨_, rfl⟩
  refine lv_i2b (v := z_18) hx hb dX12_four_18 ez_18.symm ?_
  refine va_bast hx hb hK hP hD hS 1 0 rfl rfl (by unfold vp_in; decide) dX12_four_19 (fun H locs hP hD hS => ?_)
  have hP : va_P (dC, dI) vwCl [(mo, .inr (12, [.int 0, .ref m1, .int 15, .ref m3, .ref m4, .ref m5, .ref m6, .ref m7, .ref m8, .ref m9, .int 0, .ref m11, .ref m12, .ref m13, .ref m14, .ref m15, .ref m16, .ref m17, .ref m18, .ref m19, .int 0, .int 0, .int 0, .int 0, .ref m24, .int 0, .ref m26, .int 0, .ref m28, .ref m29, .ref m30, .ref m31, .ref m32, .ref m33, .ref m34, .ref m35, .ref m36, .int 0, .int 0, .int 0, .int 0, .int 0, .int (-1), .int 0, .ref m44, .ref m45, .ref m46, .ref m47, .ref m48, .int 0, .ref m50, .ref m51, .ref m52, .ref m53, .ref m54, .int 0, .int 0])), (m1, .inl (k1, 400, .inl (upd g_14 (15 : Int32).toNatClampNeg (vp_nar .byte z_18))))] H := hP
  have hD : va_D A [(mo, .inr (12, [.int 0, .ref m1, .int 15, .ref m3, .ref m4, .ref m5, .ref m6, .ref m7, .ref m8, .ref m9, .int 0, .ref m11, .ref m12, .ref m13, .ref m14, .ref m15, .ref m16, .ref m17, .ref m18, .ref m19, .int 0, .int 0, .int 0, .int 0, .ref m24, .int 0, .ref m26, .int 0, .ref m28, .ref m29, .ref m30, .ref m31, .ref m32, .ref m33, .ref m34, .ref m35, .ref m36, .int 0, .int 0, .int 0, .int 0, .int 0, .int (-1), .int 0, .ref m44, .ref m45, .ref m46, .ref m47, .ref m48, .int 0, .ref m50, .ref m51, .ref m52, .ref m53, .ref m54, .int 0, .int 0])), (m1, .inl (k1, 400, .inl (upd g_14 (15 : Int32).toNatClampNeg (vp_nar .byte z_18))))] := hD
  obtain ⟨g_19, eg_19⟩ : ∃ g : Nat → Int32, g = (upd g_14 (15 : Int32).toNatClampNeg (vp_nar .byte z_18)) := ⟨_, rfl⟩
  rw [← eg_19] at hP hD
  have hP : va_P (dC, dI) vwCl [(mo, .inr (12, [.int 0, .ref m1, .int 15, .ref m3, .ref m4, .ref m5, .ref m6, .ref m7, .ref m8, .ref m9, .int 0, .ref m11, .ref m12, .ref m13, .ref m14, .ref m15, .ref m16, .ref m17, .ref m18, .ref m19, .int 0, .int 0, .int 0, .int 0, .ref m24, .int 0, .ref m26, .int 0, .ref m28, .ref m29, .ref m30, .ref m31, .ref m32, .ref m33, .ref m34, .ref m35, .ref m36, .int 0, .int 0, .int 0, .int 0, .int 0, .int (-1), .int 0, .ref m44, .ref m45, .ref m46, .ref m47, .ref m48, .int 0, .ref m50, .ref m51, .ref m52, .ref m53, .ref m54, .int 0, .int 0])), (m1, .inl (k1, 400, .inl g_19))] H := hP
  have hD : va_D A [(mo, .inr (12, [.int 0, .ref m1, .int 15, .ref m3, .ref m4, .ref m5, .ref m6, .ref m7, .ref m8, .ref m9, .int 0, .ref m11, .ref m12, .ref m13, .ref m14, .ref m15, .ref m16, .ref m17, .ref m18, .ref m19, .int 0, .int 0, .int 0, .int 0, .ref m24, .int 0, .ref m26, .int 0, .ref m28, .ref m29, .ref m30, .ref m31, .ref m32, .ref m33, .ref m34, .ref m35, .ref m36, .int 0, .int 0, .int 0, .int 0, .int 0, .int (-1), .int 0, .ref m44, .ref m45, .ref m46, .ref m47, .ref m48, .int 0, .ref m50, .ref m51, .ref m52, .ref m53, .ref m54, .int 0, .int 0])), (m1, .inl (k1, 400, .inl g_19))] := hD
  refine lv_aload_n hx hb dX12_four_20 rfl (lv_at hl 1 rfl) ?_
  refine lv_dup hx hb dX12_four_21 rfl ?_
  refine va_get (D := (dC, dI)) (ci := 12) (v := .int 15) (C := RX12) (T := TX12) (N := 57) hx hb hts in12 hown hK hP 0 rfl rfl 2 (by decide) (hts (.fieldLink RX12 133 "FactKeeperModel" "taped" "I") (by decide +kernel)) (fun _ h9 => h9) rfl dX12_four_22 ?_
  refine lv_iconst (v := 1) hx hb dX12_four_25 (by decide) ?_
  refine lv_iadd hx hb dX12_four_26 ?_
  refine lv_topi (fun z_20 ez_20 => ?_)
  obtain rfl : z_20 = 16 := ez_20.trans (by decide)
  refine va_put (D := (dC, dI)) (ci := 12) (v := .int 16) (ty := .int) (C := RX12) (T := TX12) (N := 57) hx hb hts in12 tyX12 tyX12_ok nmX12 hown hK hP hD hS 0 rfl rfl 2 (by decide) (hts (.fieldLink RX12 133 "FactKeeperModel" "taped" "I") (by decide +kernel)) (fun _ h9 => h9) rfl (by decide +kernel) rfl rfl (Nat.le_of_ble_eq_true rfl) dX12_four_27 (fun H locs hP hD hS => ?_)
  have hP : va_P (dC, dI) vwCl [(mo, .inr (12, [.int 0, .ref m1, .int 16, .ref m3, .ref m4, .ref m5, .ref m6, .ref m7, .ref m8, .ref m9, .int 0, .ref m11, .ref m12, .ref m13, .ref m14, .ref m15, .ref m16, .ref m17, .ref m18, .ref m19, .int 0, .int 0, .int 0, .int 0, .ref m24, .int 0, .ref m26, .int 0, .ref m28, .ref m29, .ref m30, .ref m31, .ref m32, .ref m33, .ref m34, .ref m35, .ref m36, .int 0, .int 0, .int 0, .int 0, .int 0, .int (-1), .int 0, .ref m44, .ref m45, .ref m46, .ref m47, .ref m48, .int 0, .ref m50, .ref m51, .ref m52, .ref m53, .ref m54, .int 0, .int 0])), (m1, .inl (k1, 400, .inl g_19))] H := hP
  have hD : va_D A [(mo, .inr (12, [.int 0, .ref m1, .int 16, .ref m3, .ref m4, .ref m5, .ref m6, .ref m7, .ref m8, .ref m9, .int 0, .ref m11, .ref m12, .ref m13, .ref m14, .ref m15, .ref m16, .ref m17, .ref m18, .ref m19, .int 0, .int 0, .int 0, .int 0, .ref m24, .int 0, .ref m26, .int 0, .ref m28, .ref m29, .ref m30, .ref m31, .ref m32, .ref m33, .ref m34, .ref m35, .ref m36, .int 0, .int 0, .int 0, .int 0, .int 0, .int (-1), .int 0, .ref m44, .ref m45, .ref m46, .ref m47, .ref m48, .int 0, .ref m50, .ref m51, .ref m52, .ref m53, .ref m54, .int 0, .int 0])), (m1, .inl (k1, 400, .inl g_19))] := hD
  refine lv_iinc (v := (-8)) (lv' := [(2, .int (-8)), (0, .ref mo), (1, .int fo)]) hx hb dX12_four_30 hl (k := 0) rfl (by decide) (by decide) rfl (fun ls hl => ?_)
  refine lv_goto (tgt := 3) hx hb dX12_four_33 (by decide) ?_
  refine lv_iload_n hx hb dX12_four_3 rfl (lv_at hl 0 rfl) ?_
  refine lv_if_lt (tgt := 36) hx hb dX12_four_4 (by decide) (fun _ => ?_) (fun c_21 => absurd c_21 (by decide))
  have hP9 := hP.sub (ws' := [(mo, .inr (12, [.int 0, .ref m1, .int 16, .ref m3, .ref m4, .ref m5, .ref m6, .ref m7, .ref m8, .ref m9, .int 0, .ref m11, .ref m12, .ref m13, .ref m14, .ref m15, .ref m16, .ref m17, .ref m18, .ref m19, .int 0, .int 0, .int 0, .int 0, .ref m24, .int 0, .ref m26, .int 0, .ref m28, .ref m29, .ref m30, .ref m31, .ref m32, .ref m33, .ref m34, .ref m35, .ref m36, .int 0, .int 0, .int 0, .int 0, .int 0, .int (-1), .int 0, .ref m44, .ref m45, .ref m46, .ref m47, .ref m48, .int 0, .ref m50, .ref m51, .ref m52, .ref m53, .ref m54, .int 0, .int 0])), (m1, .inl (k1, 400, .inl g_19))]) [0, 1] rfl
  have hD9 := hD.sub (ws' := [(mo, .inr (12, [.int 0, .ref m1, .int 16, .ref m3, .ref m4, .ref m5, .ref m6, .ref m7, .ref m8, .ref m9, .int 0, .ref m11, .ref m12, .ref m13, .ref m14, .ref m15, .ref m16, .ref m17, .ref m18, .ref m19, .int 0, .int 0, .int 0, .int 0, .ref m24, .int 0, .ref m26, .int 0, .ref m28, .ref m29, .ref m30, .ref m31, .ref m32, .ref m33, .ref m34, .ref m35, .ref m36, .int 0, .int 0, .int 0, .int 0, .int 0, .int (-1), .int 0, .ref m44, .ref m45, .ref m46, .ref m47, .ref m48, .int 0, .ref m50, .ref m51, .ref m52, .ref m53, .ref m54, .int 0, .int 0])), (m1, .inl (k1, 400, .inl g_19))]) [0, 1] (by decide) rfl
  have hK9 := hK.sub (tys' := [(k1, .byte)]) [0] rfl
  refine W.widen (k := 0) (n := 0) (Nat.le_of_ble_eq_true rfl) (Nat.le_of_ble_eq_true rfl) ?_
  exact (W.vret hx hb hr (fun t ht hW => ⟨⟨g_19, rfl, trivial, by rw [ht]; exact hP9, va_K.moved hW.alike hK9, hD9⟩, hS.F ht⟩) hS.2.2 dX12_four_36)

set_option maxHeartbeats 4000000 in
set_option maxRecDepth 100000 in
/-- four at 16 -/
theorem m_four16 (l : Launch) (hl0 : l.stackTraces = false) (dC : Nat → ClassId) (dI : Nat → Nat → Nat) (mo : Nat) (m1 : Nat) (m3 : Nat) (m4 : Nat) (m5 : Nat) (m6 : Nat) (m7 : Nat) (m8 : Nat) (m9 : Nat) (m11 : Nat) (m12 : Nat) (m13 : Nat) (m14 : Nat) (m15 : Nat) (m16 : Nat) (m17 : Nat) (m18 : Nat) (m19 : Nat) (m24 : Nat) (m26 : Nat) (m28 : Nat) (m29 : Nat) (m30 : Nat) (m31 : Nat) (m32 : Nat) (m33 : Nat) (m34 : Nat) (m35 : Nat) (m36 : Nat) (m44 : Nat) (m45 : Nat) (m46 : Nat) (m47 : Nat) (m48 : Nat) (m50 : Nat) (m51 : Nat) (m52 : Nat) (m53 : Nat) (m54 : Nat) (k1 : ClassId) (f : Nat → Int32) (fo : Int32) (sz : Nat)  : Met l yX12_four wsX12_four ({ frames := 0, cells := 0, slots := 0, locals := 0 } : Room) (va_Pc [.ref mo, .int fo] (ct_P (dC, dI) [(mo, .inr (12, [.int 0, .ref m1, .int 16, .ref m3, .ref m4, .ref m5, .ref m6, .ref m7, .ref m8, .ref m9, .int 0, .ref m11, .ref m12, .ref m13, .ref m14, .ref m15, .ref m16, .ref m17, .ref m18, .ref m19, .int 0, .int 0, .int 0, .int 0, .ref m24, .int 0, .ref m26, .int 0, .ref m28, .ref m29, .ref m30, .ref m31, .ref m32, .ref m33, .ref m34, .ref m35, .ref m36, .int 0, .int 0, .int 0, .int 0, .int 0, .int (-1), .int 0, .ref m44, .ref m45, .ref m46, .ref m47, .ref m48, .int 0, .ref m50, .ref m51, .ref m52, .ref m53, .ref m54, .int 0, .int 0])), (m1, .inl (k1, 400, .inl f))] [(k1, .byte)] sz)) (va_Qv (fun (u : (Nat → Int32)) => True) (fun (u : (Nat → Int32)) => ct_B (dC, dI) (va_A [(mo, .inr (12, [.int 0, .ref m1, .int 16, .ref m3, .ref m4, .ref m5, .ref m6, .ref m7, .ref m8, .ref m9, .int 0, .ref m11, .ref m12, .ref m13, .ref m14, .ref m15, .ref m16, .ref m17, .ref m18, .ref m19, .int 0, .int 0, .int 0, .int 0, .ref m24, .int 0, .ref m26, .int 0, .ref m28, .ref m29, .ref m30, .ref m31, .ref m32, .ref m33, .ref m34, .ref m35, .ref m36, .int 0, .int 0, .int 0, .int 0, .int 0, .int (-1), .int 0, .ref m44, .ref m45, .ref m46, .ref m47, .ref m48, .int 0, .ref m50, .ref m51, .ref m52, .ref m53, .ref m54, .int 0, .int 0])), (m1, .inl (k1, 400, .inl f))] sz) [(mo, .inr (12, [.int 0, .ref m1, .int 20, .ref m3, .ref m4, .ref m5, .ref m6, .ref m7, .ref m8, .ref m9, .int 0, .ref m11, .ref m12, .ref m13, .ref m14, .ref m15, .ref m16, .ref m17, .ref m18, .ref m19, .int 0, .int 0, .int 0, .int 0, .ref m24, .int 0, .ref m26, .int 0, .ref m28, .ref m29, .ref m30, .ref m31, .ref m32, .ref m33, .ref m34, .ref m35, .ref m36, .int 0, .int 0, .int 0, .int 0, .int 0, .int (-1), .int 0, .ref m44, .ref m45, .ref m46, .ref m47, .ref m48, .int 0, .ref m50, .ref m51, .ref m52, .ref m53, .ref m54, .int 0, .int 0])), (m1, .inl (k1, 400, .inl u))] [(k1, .byte)]) (va_A [(mo, .inr (12, [.int 0, .ref m1, .int 16, .ref m3, .ref m4, .ref m5, .ref m6, .ref m7, .ref m8, .ref m9, .int 0, .ref m11, .ref m12, .ref m13, .ref m14, .ref m15, .ref m16, .ref m17, .ref m18, .ref m19, .int 0, .int 0, .int 0, .int 0, .ref m24, .int 0, .ref m26, .int 0, .ref m28, .ref m29, .ref m30, .ref m31, .ref m32, .ref m33, .ref m34, .ref m35, .ref m36, .int 0, .int 0, .int 0, .int 0, .int 0, .int (-1), .int 0, .ref m44, .ref m45, .ref m46, .ref m47, .ref m48, .int 0, .ref m50, .ref m51, .ref m52, .ref m53, .ref m54, .int 0, .int 0])), (m1, .inl (k1, 400, .inl f))] sz)) 0 0 (va_A [(mo, .inr (12, [.int 0, .ref m1, .int 16, .ref m3, .ref m4, .ref m5, .ref m6, .ref m7, .ref m8, .ref m9, .int 0, .ref m11, .ref m12, .ref m13, .ref m14, .ref m15, .ref m16, .ref m17, .ref m18, .ref m19, .int 0, .int 0, .int 0, .int 0, .ref m24, .int 0, .ref m26, .int 0, .ref m28, .ref m29, .ref m30, .ref m31, .ref m32, .ref m33, .ref m34, .ref m35, .ref m36, .int 0, .int 0, .int 0, .int 0, .int 0, .int (-1), .int 0, .ref m44, .ref m45, .ref m46, .ref m47, .ref m48, .int 0, .ref m50, .ref m51, .ref m52, .ref m53, .ref m54, .int 0, .int 0])), (m1, .inl (k1, 400, .inl f))] sz) := by
  refine Met.ofW (cc := cX12_four) (maxL := 3) (ret := none) (by decide) rfl ?_
  intro p e s m args below meth c s₁ B hml hv
  obtain ⟨rfl, hsz, hP, hK, hD0, hZ⟩ := hv
  have hx := B.exec
  have hb := B.bytes
  have hr := B.returns
  have hts := atoms_spec (ws := wsX12_four) B.pre
  have hown : s.vm.findClass RX12 = some m.cls := findClass_of_methodNamed B.named
  have hlocks := B.notSynchronized
  have in12 : ∀ w ∈ u_ws RX12 TX12 57, w ∈ wsX12_four := fun w h => (List.mem_cons_of_mem _ (List.mem_append_right _ h))
  subst hsz
  have hD := hD0.self (sz := s.heap.size)
  generalize hAe : va_A [(mo, .inr (12, [.int 0, .ref m1, .int 16, .ref m3, .ref m4, .ref m5, .ref m6, .ref m7, .ref m8, .ref m9, .int 0, .ref m11, .ref m12, .ref m13, .ref m14, .ref m15, .ref m16, .ref m17, .ref m18, .ref m19, .int 0, .int 0, .int 0, .int 0, .ref m24, .int 0, .ref m26, .int 0, .ref m28, .ref m29, .ref m30, .ref m31, .ref m32, .ref m33, .ref m34, .ref m35, .ref m36, .int 0, .int 0, .int 0, .int 0, .int 0, .int (-1), .int 0, .ref m44, .ref m45, .ref m46, .ref m47, .ref m48, .int 0, .ref m50, .ref m51, .ref m52, .ref m53, .ref m54, .int 0, .int 0])), (m1, .inl (k1, 400, .inl f))] s.heap.size = A at hD hZ ⊢
  have hA : ∀ q : Nat, s.heap.size ≤ q → A q := fun q h => by rw [← hAe]; exact Or.inr h
  have hS : va_S A s.heap s.heap [] := va_S.rf
  have hP : va_P (dC, dI) vwCl [(mo, .inr (12, [.int 0, .ref m1, .int 16, .ref m3, .ref m4, .ref m5, .ref m6, .ref m7, .ref m8, .ref m9, .int 0, .ref m11, .ref m12, .ref m13, .ref m14, .ref m15, .ref m16, .ref m17, .ref m18, .ref m19, .int 0, .int 0, .int 0, .int 0, .ref m24, .int 0, .ref m26, .int 0, .ref m28, .ref m29, .ref m30, .ref m31, .ref m32, .ref m33, .ref m34, .ref m35, .ref m36, .int 0, .int 0, .int 0, .int 0, .int 0, .int (-1), .int 0, .ref m44, .ref m45, .ref m46, .ref m47, .ref m48, .int 0, .ref m50, .ref m51, .ref m52, .ref m53, .ref m54, .int 0, .int 0])), (m1, .inl (k1, 400, .inl f))] s.heap := hP
  have hK : va_K (dC, dI) vwCl [(k1, .byte)] s := hK
  have hD : va_D A [(mo, .inr (12, [.int 0, .ref m1, .int 16, .ref m3, .ref m4, .ref m5, .ref m6, .ref m7, .ref m8, .ref m9, .int 0, .ref m11, .ref m12, .ref m13, .ref m14, .ref m15, .ref m16, .ref m17, .ref m18, .ref m19, .int 0, .int 0, .int 0, .int 0, .ref m24, .int 0, .ref m26, .int 0, .ref m28, .ref m29, .ref m30, .ref m31, .ref m32, .ref m33, .ref m34, .ref m35, .ref m36, .int 0, .int 0, .int 0, .int 0, .int 0, .int (-1), .int 0, .ref m44, .ref m45, .ref m46, .ref m47, .ref m48, .int 0, .ref m50, .ref m51, .ref m52, .ref m53, .ref m54, .int 0, .int 0])), (m1, .inl (k1, 400, .inl f))] := hD
  have hl := lv_entry ([.ref mo, .int fo]) (n := 3) (Nat.le_of_ble_eq_true rfl)
  rw [lg_entry_eq]
  generalize (lg_sl ([.ref mo, .int fo]) ++ List.replicate (3 - (lg_sl ([.ref mo, .int fo])).length) Slot.unset).toArray = ls at hl ⊢
  have hl : lv_has ls 3 [(0, .ref mo), (1, .int fo)] := hl
  refine lv_bipush (v := 24) hx hb dX12_four_0 (by decide) ?_
  refine lv_istore_n (lv' := [(2, .int 24), (0, .ref mo), (1, .int fo)]) hx hb dX12_four_2 rfl hl (by decide) rfl (fun ls hl => ?_)
  refine lv_iload_n hx hb dX12_four_3 rfl (lv_at hl 0 rfl) ?_
  refine lv_if_lt (tgt := 36) hx hb dX12_four_4 (by decide) (fun c_1 => absurd c_1 (by decide)) (fun _ => ?_)
  refine lv_aload_n hx hb dX12_four_7 rfl (lv_at hl 1 rfl) ?_
  refine va_get (D := (dC, dI)) (ci := 12) (v := .ref m1) (C := RX12) (T := TX12) (N := 57) hx hb hts in12 hown hK hP 0 rfl rfl 1 (by decide) (hts (.fieldLink RX12 13 "FactKeeperModel" "tape" "[B") (by decide +kernel)) (fun _ h9 => h9) rfl dX12_four_8 ?_
  refine lv_aload_n hx hb dX12_four_11 rfl (lv_at hl 1 rfl) ?_
  refine va_get (D := (dC, dI)) (ci := 12) (v := .int 16) (C := RX12) (T := TX12) (N := 57) hx hb hts in12 hown hK hP 0 rfl rfl 2 (by decide) (hts (.fieldLink RX12 133 "FactKeeperModel" "taped" "I") (by decide +kernel)) (fun _ h9 => h9) rfl dX12_four_12 ?_
  refine lv_iload_n hx hb dX12_four_15 rfl (lv_at hl 2 rfl) ?_
  refine lv_iload_n hx hb dX12_four_16 rfl (lv_at hl 0 rfl) ?_
  refine lv_ishr hx hb dX12_four_17 ?_
  refine lv_topi (fun z_2 ez_2 => ?_)
  obtain ⟨z_3, ez_3⟩ : ∃ y : Int32, y = (z_2 : Int32).toInt8.toInt32 := ⟨_, rfl⟩
  refine lv_i2b (v := z_3) hx hb dX12_four_18 ez_3.symm ?_
  refine va_bast hx hb hK hP hD hS 1 0 rfl rfl (by unfold vp_in; decide) dX12_four_19 (fun H locs hP hD hS => ?_)
  have hP : va_P (dC, dI) vwCl [(mo, .inr (12, [.int 0, .ref m1, .int 16, .ref m3, .ref m4, .ref m5, .ref m6, .ref m7, .ref m8, .ref m9, .int 0, .ref m11, .ref m12, .ref m13, .ref m14, .ref m15, .ref m16, .ref m17, .ref m18, .ref m19, .int 0, .int 0, .int 0, .int 0, .ref m24, .int 0, .ref m26, .int 0, .ref m28, .ref m29, .ref m30, .ref m31, .ref m32, .ref m33, .ref m34, .ref m35, .ref m36, .int 0, .int 0, .int 0, .int 0, .int 0, .int (-1), .int 0, .ref m44, .ref m45, .ref m46, .ref m47, .ref m48, .int 0, .ref m50, .ref m51, .ref m52, .ref m53, .ref m54, .int 0, .int 0])), (m1, .inl (k1, 400, .inl (upd f (16 : Int32).toNatClampNeg (vp_nar .byte z_3))))] H := hP
  have hD : va_D A [(mo, .inr (12, [.int 0, .ref m1, .int 16, .ref m3, .ref m4, .ref m5, .ref m6, .ref m7, .ref m8, .ref m9, .int 0, .ref m11, .ref m12, .ref m13, .ref m14, .ref m15, .ref m16, .ref m17, .ref m18, .ref m19, .int 0, .int 0, .int 0, .int 0, .ref m24, .int 0, .ref m26, .int 0, .ref m28, .ref m29, .ref m30, .ref m31, .ref m32, .ref m33, .ref m34, .ref m35, .ref m36, .int 0, .int 0, .int 0, .int 0, .int 0, .int (-1), .int 0, .ref m44, .ref m45, .ref m46, .ref m47, .ref m48, .int 0, .ref m50, .ref m51, .ref m52, .ref m53, .ref m54, .int 0, .int 0])), (m1, .inl (k1, 400, .inl (upd f (16 : Int32).toNatClampNeg (vp_nar .byte z_3))))] := hD
  obtain ⟨g_4, eg_4⟩ : ∃ g : Nat → Int32, g = (upd f (16 : Int32).toNatClampNeg (vp_nar .byte z_3)) := ⟨_, rfl⟩
  rw [← eg_4] at hP hD
  have hP : va_P (dC, dI) vwCl [(mo, .inr (12, [.int 0, .ref m1, .int 16, .ref m3, .ref m4, .ref m5, .ref m6, .ref m7, .ref m8, .ref m9, .int 0, .ref m11, .ref m12, .ref m13, .ref m14, .ref m15, .ref m16, .ref m17, .ref m18, .ref m19, .int 0, .int 0, .int 0, .int 0, .ref m24, .int 0, .ref m26, .int 0, .ref m28, .ref m29, .ref m30, .ref m31, .ref m32, .ref m33, .ref m34, .ref m35, .ref m36, .int 0, .int 0, .int 0, .int 0, .int 0, .int (-1), .int 0, .ref m44, .ref m45, .ref m46, .ref m47, .ref m48, .int 0, .ref m50, .ref m51, .ref m52, .ref m53, .ref m54, .int 0, .int 0])), (m1, .inl (k1, 400, .inl g_4))] H := hP
  have hD : va_D A [(mo, .inr (12, [.int 0, .ref m1, .int 16, .ref m3, .ref m4, .ref m5, .ref m6, .ref m7, .ref m8, .ref m9, .int 0, .ref m11, .ref m12, .ref m13, .ref m14, .ref m15, .ref m16, .ref m17, .ref m18, .ref m19, .int 0, .int 0, .int 0, .int 0, .ref m24, .int 0, .ref m26, .int 0, .ref m28, .ref m29, .ref m30, .ref m31, .ref m32, .ref m33, .ref m34, .ref m35, .ref m36, .int 0, .int 0, .int 0, .int 0, .int 0, .int (-1), .int 0, .ref m44, .ref m45, .ref m46, .ref m47, .ref m48, .int 0, .ref m50, .ref m51, .ref m52, .ref m53, .ref m54, .int 0, .int 0])), (m1, .inl (k1, 400, .inl g_4))] := hD
  refine lv_aload_n hx hb dX12_four_20 rfl (lv_at hl 1 rfl) ?_
  refine lv_dup hx hb dX12_four_21 rfl ?_
  refine va_get (D := (dC, dI)) (ci := 12) (v := .int 16) (C := RX12) (T := TX12) (N := 57) hx hb hts in12 hown hK hP 0 rfl rfl 2 (by decide) (hts (.fieldLink RX12 133 "FactKeeperModel" "taped" "I") (by decide +kernel)) (fun _ h9 => h9) rfl dX12_four_22 ?_
  refine lv_iconst (v := 1) hx hb dX12_four_25 (by decide) ?_
  refine lv_iadd hx hb dX12_four_26 ?_
  refine lv_topi (fun z_5 ez_5 => ?_)
  obtain rfl : z_5 = 17 := ez_5.trans (by decide)
  refine va_put (D := (dC, dI)) (ci := 12) (v := .int 17) (ty := .int) (C := RX12) (T := TX12) (N := 57) hx hb hts in12 tyX12 tyX12_ok nmX12 hown hK hP hD hS 0 rfl rfl 2 (by decide) (hts (.fieldLink RX12 133 "FactKeeperModel" "taped" "I") (by decide +kernel)) (fun _ h9 => h9) rfl (by decide +kernel) rfl rfl (Nat.le_of_ble_eq_true rfl) dX12_four_27 (fun H locs hP hD hS => ?_)
  have hP : va_P (dC, dI) vwCl [(mo, .inr (12, [.int 0, .ref m1, .int 17, .ref m3, .ref m4, .ref m5, .ref m6, .ref m7, .ref m8, .ref m9, .int 0, .ref m11, .ref m12, .ref m13, .ref m14, .ref m15, .ref m16, .ref m17, .ref m18, .ref m19, .int 0, .int 0, .int 0, .int 0, .ref m24, .int 0, .ref m26, .int 0, .ref m28, .ref m29, .ref m30, .ref m31, .ref m32, .ref m33, .ref m34, .ref m35, .ref m36, .int 0, .int 0, .int 0, .int 0, .int 0, .int (-1), .int 0, .ref m44, .ref m45, .ref m46, .ref m47, .ref m48, .int 0, .ref m50, .ref m51, .ref m52, .ref m53, .ref m54, .int 0, .int 0])), (m1, .inl (k1, 400, .inl g_4))] H := hP
  have hD : va_D A [(mo, .inr (12, [.int 0, .ref m1, .int 17, .ref m3, .ref m4, .ref m5, .ref m6, .ref m7, .ref m8, .ref m9, .int 0, .ref m11, .ref m12, .ref m13, .ref m14, .ref m15, .ref m16, .ref m17, .ref m18, .ref m19, .int 0, .int 0, .int 0, .int 0, .ref m24, .int 0, .ref m26, .int 0, .ref m28, .ref m29, .ref m30, .ref m31, .ref m32, .ref m33, .ref m34, .ref m35, .ref m36, .int 0, .int 0, .int 0, .int 0, .int 0, .int (-1), .int 0, .ref m44, .ref m45, .ref m46, .ref m47, .ref m48, .int 0, .ref m50, .ref m51, .ref m52, .ref m53, .ref m54, .int 0, .int 0])), (m1, .inl (k1, 400, .inl g_4))] := hD
  refine lv_iinc (v := 16) (lv' := [(2, .int 16), (0, .ref mo), (1, .int fo)]) hx hb dX12_four_30 hl (k := 0) rfl (by decide) (by decide) rfl (fun ls hl => ?_)
  refine lv_goto (tgt := 3) hx hb dX12_four_33 (by decide) ?_
  refine lv_iload_n hx hb dX12_four_3 rfl (lv_at hl 0 rfl) ?_
  refine lv_if_lt (tgt := 36) hx hb dX12_four_4 (by decide) (fun c_6 => absurd c_6 (by decide)) (fun _ => ?_)
  refine lv_aload_n hx hb dX12_four_7 rfl (lv_at hl 1 rfl) ?_
  refine va_get (D := (dC, dI)) (ci := 12) (v := .ref m1) (C := RX12) (T := TX12) (N := 57) hx hb hts in12 hown hK hP 0 rfl rfl 1 (by decide) (hts (.fieldLink RX12 13 "FactKeeperModel" "tape" "[B") (by decide +kernel)) (fun _ h9 => h9) rfl dX12_four_8 ?_
  refine lv_aload_n hx hb dX12_four_11 rfl (lv_at hl 1 rfl) ?_
  refine va_get (D := (dC, dI)) (ci := 12) (v := .int 17) (C := RX12) (T := TX12) (N := 57) hx hb hts in12 hown hK hP 0 rfl rfl 2 (by decide) (hts (.fieldLink RX12 133 "FactKeeperModel" "taped" "I") (by decide +kernel)) (fun _ h9 => h9) rfl dX12_four_12 ?_
  refine lv_iload_n hx hb dX12_four_15 rfl (lv_at hl 2 rfl) ?_
  refine lv_iload_n hx hb dX12_four_16 rfl (lv_at hl 0 rfl) ?_
  refine lv_ishr hx hb dX12_four_17 ?_
  refine lv_topi (fun z_7 ez_7 => ?_)
  obtain ⟨z_8, ez_8⟩ : ∃ y : Int32, y = (z_7 : Int32).toInt8.toInt32 := ⟨_, rfl⟩
  refine lv_i2b (v := z_8) hx hb dX12_four_18 ez_8.symm ?_
  refine va_bast hx hb hK hP hD hS 1 0 rfl rfl (by unfold vp_in; decide) dX12_four_19 (fun H locs hP hD hS => ?_)
  have hP : va_P (dC, dI) vwCl [(mo, .inr (12, [.int 0, .ref m1, .int 17, .ref m3, .ref m4, .ref m5, .ref m6, .ref m7, .ref m8, .ref m9, .int 0, .ref m11, .ref m12, .ref m13, .ref m14, .ref m15, .ref m16, .ref m17, .ref m18, .ref m19, .int 0, .int 0, .int 0, .int 0, .ref m24, .int 0, .ref m26, .int 0, .ref m28, .ref m29, .ref m30, .ref m31, .ref m32, .ref m33, .ref m34, .ref m35, .ref m36, .int 0, .int 0, .int 0, .int 0, .int 0, .int (-1), .int 0, .ref m44, .ref m45, .ref m46, .ref m47, .ref m48, .int 0, .ref m50, .ref m51, .ref m52, .ref m53, .ref m54, .int 0, .int 0])), (m1, .inl (k1, 400, .inl (upd g_4 (17 : Int32).toNatClampNeg (vp_nar .byte z_8))))] H := hP
  have hD : va_D A [(mo, .inr (12, [.int 0, .ref m1, .int 17, .ref m3, .ref m4, .ref m5, .ref m6, .ref m7, .ref m8, .ref m9, .int 0, .ref m11, .ref m12, .ref m13, .ref m14, .ref m15, .ref m16, .ref m17, .ref m18, .ref m19, .int 0, .int 0, .int 0, .int 0, .ref m24, .int 0, .ref m26, .int 0, .ref m28, .ref m29, .ref m30, .ref m31, .ref m32, .ref m33, .ref m34, .ref m35, .ref m36, .int 0, .int 0, .int 0, .int 0, .int 0, .int (-1), .int 0, .ref m44, .ref m45, .ref m46, .ref m47, .ref m48, .int 0, .ref m50, .ref m51, .ref m52, .ref m53, .ref m54, .int 0, .int 0])), (m1, .inl (k1, 400, .inl (upd g_4 (17 : Int32).toNatClampNeg (vp_nar .byte z_8))))] := hD
  obtain ⟨g_9, eg_9⟩ : ∃ g : Nat → Int32, g = (upd g_4 (17 : Int32).toNatClampNeg (vp_nar .byte z_8)) := ⟨_, rfl⟩
  rw [← eg_9] at hP hD
  have hP : va_P (dC, dI) vwCl [(mo, .inr (12, [.int 0, .ref m1, .int 17, .ref m3, .ref m4, .ref m5, .ref m6, .ref m7, .ref m8, .ref m9, .int 0, .ref m11, .ref m12, .ref m13, .ref m14, .ref m15, .ref m16, .ref m17, .ref m18, .ref m19, .int 0, .int 0, .int 0, .int 0, .ref m24, .int 0, .ref m26, .int 0, .ref m28, .ref m29, .ref m30, .ref m31, .ref m32, .ref m33, .ref m34, .ref m35, .ref m36, .int 0, .int 0, .int 0, .int 0, .int 0, .int (-1), .int 0, .ref m44, .ref m45, .ref m46, .ref m47, .ref m48, .int 0, .ref m50, .ref m51, .ref m52, .ref m53, .ref m54, .int 0, .int 0])), (m1, .inl (k1, 400, .inl g_9))] H := hP
  have hD : va_D A [(mo, .inr (12, [.int 0, .ref m1, .int 17, .ref m3, .ref m4, .ref m5, .ref m6, .ref m7, .ref m8, .ref m9, .int 0, .ref m11, .ref m12, .ref m13, .ref m14, .ref m15, .ref m16, .ref m17, .ref m18, .ref m19, .int 0, .int 0, .int 0, .int 0, .ref m24, .int 0, .ref m26, .int 0, .ref m28, .ref m29, .ref m30, .ref m31, .ref m32, .ref m33, .ref m34, .ref m35, .ref m36, .int 0, .int 0, .int 0, .int 0, .int 0, .int (-1), .int 0, .ref m44, .ref m45, .ref m46, .ref m47, .ref m48, .int 0, .ref m50, .ref m51, .ref m52, .ref m53, .ref m54, .int 0, .int 0])), (m1, .inl (k1, 400, .inl g_9))] := hD
  refine lv_aload_n hx hb dX12_four_20 rfl (lv_at hl 1 rfl) ?_
  refine lv_dup hx hb dX12_four_21 rfl ?_
  refine va_get (D := (dC, dI)) (ci := 12) (v := .int 17) (C := RX12) (T := TX12) (N := 57) hx hb hts in12 hown hK hP 0 rfl rfl 2 (by decide) (hts (.fieldLink RX12 133 "FactKeeperModel" "taped" "I") (by decide +kernel)) (fun _ h9 => h9) rfl dX12_four_22 ?_
  refine lv_iconst (v := 1) hx hb dX12_four_25 (by decide) ?_
  refine lv_iadd hx hb dX12_four_26 ?_
  refine lv_topi (fun z_10 ez_10 => ?_)
  obtain rfl : z_10 = 18 := ez_10.trans (by decide)
  refine va_put (D := (dC, dI)) (ci := 12) (v := .int 18) (ty := .int) (C := RX12) (T := TX12) (N := 57) hx hb hts in12 tyX12 tyX12_ok nmX12 hown hK hP hD hS 0 rfl rfl 2 (by decide) (hts (.fieldLink RX12 133 "FactKeeperModel" "taped" "I") (by decide +kernel)) (fun _ h9 => h9) rfl (by decide +kernel) rfl rfl (Nat.le_of_ble_eq_true rfl) dX12_four_27 (fun H locs hP hD hS => ?_)
  have hP : va_P (dC, dI) vwCl [(mo, .inr (12, [.int 0, .ref m1, .int 18, .ref m3, .ref m4, .ref m5, .ref m6, .ref m7, .ref m8, .ref m9, .int 0, .ref m11, .ref m12, .ref m13, .ref m14, .ref m15, .ref m16, .ref m17, .ref m18, .ref m19, .int 0, .int 0, .int 0, .int 0, .ref m24, .int 0, .ref m26, .int 0, .ref m28, .ref m29, .ref m30, .ref m31, .ref m32, .ref m33, .ref m34, .ref m35, .ref m36, .int 0, .int 0, .int 0, .int 0, .int 0, .int (-1), .int 0, .ref m44, .ref m45, .ref m46, .ref m47, .ref m48, .int 0, .ref m50, .ref m51, .ref m52, .ref m53, .ref m54, .int 0, .int 0])), (m1, .inl (k1, 400, .inl g_9))] H := hP
  have hD : va_D A [(mo, .inr (12, [.int 0, .ref m1, .int 18, .ref m3, .ref m4, .ref m5, .ref m6, .ref m7, .ref m8, .ref m9, .int 0, .ref m11, .ref m12, .ref m13, .ref m14, .ref m15, .ref m16, .ref m17, .ref m18, .ref m19, .int 0, .int 0, .int 0, .int 0, .ref m24, .int 0, .ref m26, .int 0, .ref m28, .ref m29, .ref m30, .ref m31, .ref m32, .ref m33, .ref m34, .ref m35, .ref m36, .int 0, .int 0, .int 0, .int 0, .int 0, .int (-1), .int 0, .ref m44, .ref m45, .ref m46, .ref m47, .ref m48, .int 0, .ref m50, .ref m51, .ref m52, .ref m53, .ref m54, .int 0, .int 0])), (m1, .inl (k1, 400, .inl g_9))] := hD
  refine lv_iinc (v := 8) (lv' := [(2, .int 8), (0, .ref mo), (1, .int fo)]) hx hb dX12_four_30 hl (k := 0) rfl (by decide) (by decide) rfl (fun ls hl => ?_)
  refine lv_goto (tgt := 3) hx hb dX12_four_33 (by decide) ?_
  refine lv_iload_n hx hb dX12_four_3 rfl (lv_at hl 0 rfl) ?_
  refine lv_if_lt (tgt := 36) hx hb dX12_four_4 (by decide) (fun c_11 => absurd c_11 (by decide)) (fun _ => ?_)
  refine lv_aload_n hx hb dX12_four_7 rfl (lv_at hl 1 rfl) ?_
  refine va_get (D := (dC, dI)) (ci := 12) (v := .ref m1) (C := RX12) (T := TX12) (N := 57) hx hb hts in12 hown hK hP 0 rfl rfl 1 (by decide) (hts (.fieldLink RX12 13 "FactKeeperModel" "tape" "[B") (by decide +kernel)) (fun _ h9 => h9) rfl dX12_four_8 ?_
  refine lv_aload_n hx hb dX12_four_11 rfl (lv_at hl 1 rfl) ?_
  refine va_get (D := (dC, dI)) (ci := 12) (v := .int 18) (C := RX12) (T := TX12) (N := 57) hx hb hts in12 hown hK hP 0 rfl rfl 2 (by decide) (hts (.fieldLink RX12 133 "FactKeeperModel" "taped" "I") (by decide +kernel)) (fun _ h9 => h9) rfl dX12_four_12 ?_
  refine lv_iload_n hx hb dX12_four_15 rfl (lv_at hl 2 rfl) ?_
  refine lv_iload_n hx hb dX12_four_16 rfl (lv_at hl 0 rfl) ?_
  refine lv_ishr hx hb dX12_four_17 ?_
  refine lv_topi (fun z_12 ez_12 => ?_)
  obtain ⟨z_13, ez_13⟩ : ∃ y : Int32, y = (z_12 : Int32).toInt8.toInt32 := ⟨_, rfl⟩
  refine lv_i2b (v := z_13) hx hb dX12_four_18 ez_13.symm ?_
  refine va_bast hx hb hK hP hD hS 1 0 rfl rfl (by unfold vp_in; decide) dX12_four_19 (fun H locs hP hD hS => ?_)
  have hP : va_P (dC, dI) vwCl [(mo, .inr (12, [.int 0, .ref m1, .int 18, .ref m3, .ref m4, .ref m5, .ref m6, .ref m7, .ref m8, .ref m9, .int 0, .ref m11, .ref m12, .ref m13, .ref m14, .ref m15, .ref m16, .ref m17, .ref m18, .ref m19, .int 0, .int 0, .int 0, .int 0, .ref m24, .int 0, .ref m26, .int 0, .ref m28, .ref m29, .ref m30, .ref m31, .ref m32, .ref m33, .ref m34, .ref m35, .ref m36, .int 0, .int 0, .int 0, .int 0, .int 0, .int (-1), .int 0, .ref m44, .ref m45, .ref m46, .ref m47, .ref m48, .int 0, .ref m50, .ref m51, .ref m52, .ref m53, .ref m54, .int 0, .int 0])), (m1, .inl (k1, 400, .inl (upd g_9 (18 : Int32).toNatClampNeg (vp_nar .byte z_13))))] H := hP
  have hD : va_D A [(mo, .inr (12, [.int 0, .ref m1, .int 18, .ref m3, .ref m4, .ref m5, .ref m6, .ref m7, .ref m8, .ref m9, .int 0, .ref m11, .ref m12, .ref m13, .ref m14, .ref m15, .ref m16, .ref m17, .ref m18, .ref m19, .int 0, .int 0, .int 0, .int 0, .ref m24, .int 0, .ref m26, .int 0, .ref m28, .ref m29, .ref m30, .ref m31, .ref m32, .ref m33, .ref m34, .ref m35, .ref m36, .int 0, .int 0, .int 0, .int 0, .int 0, .int (-1), .int 0, .ref m44, .ref m45, .ref m46, .ref m47, .ref m48, .int 0, .ref m50, .ref m51, .ref m52, .ref m53, .ref m54, .int 0, .int 0])), (m1, .inl (k1, 400, .inl (upd g_9 (18 : Int32).toNatClampNeg (vp_nar .byte z_13))))] := hD
  obtain ⟨g_14, eg_14⟩ : ∃ g : Nat → Int32, g = (upd g_9 (18 : Int32).toNatClampNeg (vp_nar .byte z_13)) := ⟨_, rfl⟩
  rw [← eg_14] at hP hD
  have hP : va_P (dC, dI) vwCl [(mo, .inr (12, [.int 0, .ref m1, .int 18, .ref m3, .ref m4, .ref m5, .ref m6, .ref m7, .ref m8, .ref m9, .int 0, .ref m11, .ref m12, .ref m13, .ref m14, .ref m15, .ref m16, .ref m17, .ref m18, .ref m19, .int 0, .int 0, .int 0, .int 0, .ref m24, .int 0, .ref m26, .int 0, .ref m28, .ref m29, .ref m30, .ref m31, .ref m32, .ref m33, .ref m34, .ref m35, .ref m36, .int 0, .int 0, .int 0, .int 0, .int 0, .int (-1), .int 0, .ref m44, .ref m45, .ref m46, .ref m47, .ref m48, .int 0, .ref m50, .ref m51, .ref m52, .ref m53, .ref m54, .int 0, .int 0])), (m1, .inl (k1, 400, .inl g_14))] H := hP
  have hD : va_D A [(mo, .inr (12, [.int 0, .ref m1, .int 18, .ref m3, .ref m4, .ref m5, .ref m6, .ref m7, .ref m8, .ref m9, .int 0, .ref m11, .ref m12, .ref m13, .ref m14, .ref m15, .ref m16, .ref m17, .ref m18, .ref m19, .int 0, .int 0, .int 0, .int 0, .ref m24, .int 0, .ref m26, .int 0, .ref m28, .ref m29, .ref m30, .ref m31, .ref m32, .ref m33, .ref m34, .ref m35, .ref m36, .int 0, .int 0, .int 0, .int 0, .int 0, .int (-1), .int 0, .ref m44, .ref m45, .ref m46, .ref m47, .ref m48, .int 0, .ref m50, .ref m51, .ref m52, .ref m53, .ref m54, .int 0, .int 0])), (m1, .inl (k1, 400, .inl g_14))] := hD
  refine lv_aload_n hx hb dX12_four_20 rfl (lv_at hl 1 rfl) ?_
  refine lv_dup hx hb dX12_four_21 rfl ?_
  refine va_get (D := (dC, dI)) (ci := 12) (v := .int 18) (C := RX12) (T := TX12) (N := 57) hx hb hts in12 hown hK hP 0 rfl rfl 2 (by decide) (hts (.fieldLink RX12 133 "FactKeeperModel" "taped" "I") (by decide +kernel)) (fun _ h9 => h9) rfl dX12_four_22 ?_
  refine lv_iconst (v := 1) hx hb dX12_four_25 (by decide) ?_
  refine lv_iadd hx hb dX12_four_26 ?_
  refine lv_topi (fun z_15 ez_15 => ?_)
  obtain rfl : z_15 = 19 := ez_15.trans (by decide)
  refine va_put (D := (dC, dI)) (ci := 12) (v := .int 19) (ty := .int) (C := RX12) (T := TX12) (N := 57) hx hb hts in12 tyX12 tyX12_ok nmX12 hown hK hP hD hS 0 rfl rfl 2 (by decide) (hts (.fieldLink RX12 133 "FactKeeperModel" "taped" "I") (by decide +kernel)) (fun _ h9 => h9) rfl (by decide +kernel) rfl rfl (Nat.le_of_ble_eq_true rfl) dX12_four_27 (fun H locs hP hD hS => ?_)
  have hP : va_P (dC, dI) vwCl [(mo, .inr (12, [.int 0, .ref m1, .int 19, .ref m3, .ref m4, .ref m5, .ref m6, .ref m7, .ref m8, .ref m9, .int 0, .ref m11, .ref m12, .ref m13, .ref m14, .ref m15, .ref m16, .ref m17, .ref m18, .ref m19, .int 0, .int 0, .int 0, .int 0, .ref m24, .int 0, .ref m26, .int 0, .ref m28, .ref m29, .ref m30, .ref m31, .ref m32, .ref m33, .ref m34, .ref m35, .ref m36, .int 0, .int 0, .int 0, .int 0, .int 0, .int (-1), .int 0, .ref m44, .ref m45, .ref m46, .ref m47, .ref m48, .int 0, .ref m50, .ref m51, .ref m52, .ref m53, .ref m54, .int 0, .int 0])), (m1, .inl (k1, 400, .inl g_14))] H := hP
  have hD : va_D A [(mo, .inr (12, [.int 0, .ref m1, .int 19, .ref m3, .ref m4, .ref m5, .ref m6, .ref m7, .ref m8, .ref m9, .int 0, .ref m11, .ref m12, .ref m13, .ref m14, .ref m15, .ref m16, .ref m17, .ref m18, .ref m19, .int 0, .int 0, .int 0, .int 0, .ref m24, .int 0, .ref m26, .int 0, .ref m28, .ref m29, .ref m30, .ref m31, .ref m32, .ref m33, .ref m34, .ref m35, .ref m36, .int 0, .int 0, .int 0, .int 0, .int 0, .int (-1), .int 0, .ref m44, .ref m45, .ref m46, .ref m47, .ref m48, .int 0, .ref m50, .ref m51, .ref m52, .ref m53, .ref m54, .int 0, .int 0])), (m1, .inl (k1, 400, .inl g_14))] := hD
  refine lv_iinc (v := 0) (lv' := [(2, .int 0), (0, .ref mo), (1, .int fo)]) hx hb dX12_four_30 hl (k := 0) rfl (by decide) (by decide) rfl (fun ls hl => ?_)
  refine lv_goto (tgt := 3) hx hb dX12_four_33 (by decide) ?_
  refine lv_iload_n hx hb dX12_four_3 rfl (lv_at hl 0 rfl) ?_
  refine lv_if_lt (tgt := 36) hx hb dX12_four_4 (by decide) (fun c_16 => absurd c_16 (by decide)) (fun _ => ?_)
  refine lv_aload_n hx hb dX12_four_7 rfl (lv_at hl 1 rfl) ?_
  refine va_get (D := (dC, dI)) (ci := 12) (v := .ref m1) (C := RX12) (T := TX12) (N := 57) hx hb hts in12 hown hK hP 0 rfl rfl 1 (by decide) (hts (.fieldLink RX12 13 "FactKeeperModel" "tape" "[B") (by decide +kernel)) (fun _ h9 => h9) rfl dX12_four_8 ?_
  refine lv_aload_n hx hb dX12_four_11 rfl (lv_at hl 1 rfl) ?_
  refine va_get (D := (dC, dI)) (ci := 12) (v := .int 19) (C := RX12) (T := TX12) (N := 57) hx hb hts in12 hown hK hP 0 rfl rfl 2 (by decide) (hts (.fieldLink RX12 133 "FactKeeperModel" "taped" "I") (by decide +kernel)) (fun _ h9 => h9) rfl dX12_four_12 ?_
  refine lv_iload_n hx hb dX12_four_15 rfl (lv_at hl 2 rfl) ?_
  refine lv_iload_n hx hb dX12_four_16 rfl (lv_at hl 0 rfl) ?_
  refine lv_ishr hx hb dX12_four_17 ?_
  refine lv_topi (fun z_17 ez_17 => ?_)
  obtain ⟨z_18, ez_18⟩ : ∃ y : Int32, y = (z_17 : Int32).toInt8.toInt32 := ⟨_, rfl⟩
  refine lv_i2b (v := z_18) hx hb dX12_four_18 ez_18.symm ?_
  refine va_bast hx hb hK hP hD hS 1 0 rfl rfl (by unfold vp_in; decide) dX12_four_19 (fun H locs hP hD hS => ?_)
  have hP : va_P (dC, dI) vwCl [(mo, .inr (12, [.int 0, .ref m1, .int 19, .ref m3, .ref m4, .ref m5, .ref m6, .ref m7, .ref m8, .ref m9, .int 0, .ref m11, .ref m12, .ref m13, .ref m14, .ref m15, .ref m16, .ref m17, .ref m18, .ref m19, .int 0, .int 0, .int 0, .int 0, .ref m24, .int 0, .ref m26, .int 0, .ref m28, .ref m29, .ref m30, .ref m31, .ref m32, .ref m33, .ref m34, .ref m35, .ref m36, .int 0, .int 0, .int 0, .int 0, .int 0, .int (-1), .int 0, .ref m44, .ref m45, .ref m46, .ref m47, .ref m48, .int 0, .ref m50, .ref m51, .ref m52, .ref m53, .ref m54, .int 0, .int 0])), (m1, .inl (k1, 400, .inl (upd g_14 (19 : Int32).toNatClampNeg (vp_nar .byte z_18))))] H := hP
  have hD : va_D A [(mo, .inr (12, [.int 0, .ref m1, .int 19, .ref m3, .ref m4, .ref m5, .ref m6, .ref m7, .ref m8, .ref m9, .int 0, .ref m11, .ref m12, .ref m13, .ref m14, .ref m15, .ref m16, .ref m17, .ref m18, .ref m19, .int 0, .int 0, .int 0, .int 0, .ref m24, .int 0, .ref m26, .int 0, .ref m28, .ref m29, .ref m30, .ref m31, .ref m32, .ref m33, .ref m34, .ref m35, .ref m36, .int 0, .int 0, .int 0, .int 0, .int 0, .int (-1), .int 0, .ref m44, .ref m45, .ref m46, .ref m47, .ref m48, .int 0, .ref m50, .ref m51, .ref m52, .ref m53, .ref m54, .int 0, .int 0])), (m1, .inl (k1, 400, .inl (upd g_14 (19 : Int32).toNatClampNeg (vp_nar .byte z_18))))] := hD
  obtain ⟨g_19, eg_19⟩ : ∃ g : Nat → Int32, g = (upd g_14 (19 : Int32).toNatClampNeg (vp_nar .byte z_18)) := ⟨_, rfl⟩
  rw [← eg_19] at hP hD
  have hP : va_P (dC, dI) vwCl [(mo, .inr (12, [.int 0, .ref m1, .int 19, .ref m3, .ref m4, .ref m5, .ref m6, .ref m7, .ref m8, .ref m9, .int 0, .ref m11, .ref m12, .ref m13, .ref m14, .ref m15, .ref m16, .ref m17, .ref m18, .ref m19, .int 0, .int 0, .int 0, .int 0, .ref m24, .int 0, .ref m26, .int 0, .ref m28, .ref m29, .ref m30, .ref m31, .ref m32, .ref m33, .ref m34, .ref m35, .ref m36, .int 0, .int 0, .int 0, .int 0, .int 0, .int (-1), .int 0, .ref m44, .ref m45, .ref m46, .ref m47, .ref m48, .int 0, .ref m50, .ref m51, .ref m52, .ref m53, .ref m54, .int 0, .int 0])), (m1, .inl (k1, 400, .inl g_19))] H := hP
  have hD : va_D A [(mo, .inr (12, [.int 0, .ref m1, .int 19, .ref m3, .ref m4, .ref m5, .ref m6, .ref m7, .ref m8, .ref m9, .int 0, .ref m11, .ref m12, .ref m13, .ref m14, .ref m15, .ref m16, .ref m17, .ref m18, .ref m19, .int 0, .int 0, .int 0, .int 0, .ref m24, .int 0, .ref m26, .int 0, .ref m28, .ref m29, .ref m30, .ref m31, .ref m32, .ref m33, .ref m34, .ref m35, .ref m36, .int 0, .int 0, .int 0, .int 0, .int 0, .int (-1), .int 0, .ref m44, .ref m45, .ref m46, .ref m47, .ref m48, .int 0, .ref m50, .ref m51, .ref m52, .ref m53, .ref m54, .int 0, .int 0])), (m1, .inl (k1, 400, .inl g_19))] := hD
  refine lv_aload_n hx hb dX12_four_20 rfl (lv_at hl 1 rfl) ?_
  refine lv_dup hx hb dX12_four_21 rfl ?_
  refine va_get (D := (dC, dI)) (ci := 12) (v := .int 19) (C := RX12) (T := TX12) (N := 57) hx hb hts in12 hown hK hP 0 rfl rfl 2 (by decide) (hts (.fieldLink RX12 133 "FactKeeperModel" "taped" "I") (by decide +kernel)) (fun _ h9 => h9) rfl dX12_four_22 ?_
  refine lv_iconst (v := 1) hx hb dX12_four_25 (by decide) ?_
  refine lv_iadd hx hb dX12_four_26 ?_
  refine lv_topi (fun z_20 ez_20 => ?_)
  obtain rfl : z_20 = 20 := ez_20.trans (by decide)
  refine va_put (D := (dC, dI)) (ci := 12) (v := .int 20) (ty := .int) (C := RX12) (T := TX12) (N := 57) hx hb hts in12 tyX12 tyX12_ok nmX12 hown hK hP hD hS 0 rfl rfl 2 (by decide) (hts (.fieldLink RX12 133 "FactKeeperModel" "taped" "I") (by decide +kernel)) (fun _ h9 => h9) rfl (by decide +kernel) rfl rfl (Nat.le_of_ble_eq_true rfl) dX12_four_27 (fun H locs hP hD hS => ?_)
  have hP : va_P (dC, dI) vwCl [(mo, .inr (12, [.int 0, .ref m1, .int 20, .ref m3, .ref m4, .ref m5, .ref m6, .ref m7, .ref m8, .ref m9, .int 0, .ref m11, .ref m12, .ref m13, .ref m14, .ref m15, .ref m16, .ref m17, .ref m18, .ref m19, .int 0, .int 0, .int 0, .int 0, .ref m24, .int 0, .ref m26, .int 0, .ref m28, .ref m29, .ref m30, .ref m31, .ref m32, .ref m33, .ref m34, .ref m35, .ref m36, .int 0, .int 0, .int 0, .int 0, .int 0, .int (-1), .int 0, .ref m44, .ref m45, .ref m46, .ref m47, .ref m48, .int 0, .ref m50, .ref m51, .ref m52, .ref m53, .ref m54, .int 0, .int 0])), (m1, .inl (k1, 400, .inl g_19))] H := hP
  have hD : va_D A [(mo, .inr (12, [.int 0, .ref m1, .int 20, .ref m3, .ref m4, .ref m5, .ref m6, .ref m7, .ref m8, .ref m9, .int 0, .ref m11, .ref m12, .ref m13, .ref m14, .ref m15, .ref m16, .ref m17, .ref m18, .ref m19, .int 0, .int 0, .int 0, .int 0, .ref m24, .int 0, .ref m26, .int 0, .ref m28, .ref m29, .ref m30, .ref m31, .ref m32, .ref m33, .ref m34, .ref m35, .ref m36, .int 0, .int 0, .int 0, .int 0, .int 0, .int (-1), .int 0, .ref m44, .ref m45, .ref m46, .ref m47, .ref m48, .int 0, .ref m50, .ref m51, .ref m52, .ref m53, .ref m54, .int 0, .int 0])), (m1, .inl (k1, 400, .inl g_19))] := hD
  refine lv_iinc (v := (-8)) (lv' := [(2, .int (-8)), (0, .ref mo), (1, .int fo)]) hx hb dX12_four_30 hl (k := 0) rfl (by decide) (by decide) rfl (fun ls hl => ?_)
  refine lv_goto (tgt := 3) hx hb dX12_four_33 (by decide) ?_
  refine lv_iload_n hx hb dX12_four_3 rfl (lv_at hl 0 rfl) ?_
  refine lv_if_lt (tgt := 36) hx hb dX12_four_4 (by decide) (fun _ => ?_) (fun c_21 => absurd c_21 (by decide))
  have hP9 := hP.sub (ws' := [(mo, .inr (12, [.int 0, .ref m1, .int 20, .ref m3, .ref m4, .ref m5, .ref m6, .ref m7, .ref m8, .ref m9, .int 0, .ref m11, .ref m12, .ref m13, .ref m14, .ref m15, .ref m16, .ref m17, .ref m18, .ref m19, .int 0, .int 0, .int 0, .int 0, .ref m24, .int 0, .ref m26, .int 0, .ref m28, .ref m29, .ref m30, .ref m31, .ref m32, .ref m33, .ref m34, .ref m35, .ref m36, .int 0, .int 0, .int 0, .int 0, .int 0, .int (-1), .int 0, .ref m44, .ref m45, .ref m46, .ref m47, .ref m48, .int 0, .ref m50, .ref m51, .ref m52, .ref m53, .ref m54, .int 0, .int 0])), (m1, .inl (k1, 400, .inl g_19))]) [0, 1] rfl
  have hD9 := hD.sub (ws' := [(mo, .inr (12, [.int 0, .ref m1, .int 20, .ref m3, .ref m4, .ref m5, .ref m6, .ref m7, .ref m8, .ref m9, .int 0, .ref m11, .ref m12, .ref m13, .ref m14, .ref m15, .ref m16, .ref m17, .ref m18, .ref m19, .int 0, .int 0, .int 0, .int 0, .ref m24, .int 0, .ref m26, .int 0, .ref m28, .ref m29, .ref m30, .ref m31, .ref m32, .ref m33, .ref m34, .ref m35, .ref m36, .int 0, .int 0, .int 0, .int 0, .int 0, .int (-1), .int 0, .ref m44, .ref m45, .ref m46, .ref m47, .ref m48, .int 0, .ref m50, .ref m51, .ref m52, .ref m53, .ref m54, .int 0, .int 0])), (m1, .inl (k1, 400, .inl g_19))]) [0, 1] (by decide) rfl
  have hK9 := hK.sub (tys' := [(k1, .byte)]) [0] rfl
  refine W.widen (k := 0) (n := 0) (Nat.le_of_ble_eq_true rfl) (Nat.le_of_ble_eq_true rfl) ?_
  exact (W.vret hx hb hr (fun t ht hW => ⟨⟨g_19, rfl, trivial, by rw [ht]; exact hP9, va_K.moved hW.alike hK9, hD9⟩, hS.F ht⟩) hS.2.2 dX12_four_36)

set_option maxHeartbeats 4000000 in
set_option maxRecDepth 100000 in
/-- feed -/
theorem m_feed (l : Launch) (hl0 : l.stackTraces = false) (dC : Nat → ClassId) (dI : Nat → Nat → Nat) (mo : Nat) (m1 : Nat) (m3 : Nat) (m4 : Nat) (m5 : Nat) (m6 : Nat) (m7 : Nat) (m8 : Nat) (m9 : Nat) (m11 : Nat) (m12 : Nat) (m13 : Nat) (m14 : Nat) (m15 : Nat) (m16 : Nat) (m17 : Nat) (m18 : Nat) (m19 : Nat) (m24 : Nat) (m26 : Nat) (m28 : Nat) (m29 : Nat) (m30 : Nat) (m31 : Nat) (m32 : Nat) (m33 : Nat) (m34 : Nat) (m35 : Nat) (m36 : Nat) (m44 : Nat) (m45 : Nat) (m46 : Nat) (m47 : Nat) (m48 : Nat) (m50 : Nat) (m51 : Nat) (m52 : Nat) (m53 : Nat) (m54 : Nat) (k1 : ClassId) (b1 : Int32) (b2 : Int32) (b3 : Int32) (b4 : Int32) (b5 : Int32) (sz : Nat)  : Met l yX12_feed wsX12_feed ({ frames := 1, cells := 0, slots := 0, locals := 22 } : Room) (va_Pc [.ref mo, .int b1, .int b2, .int b3, .int b4, .int b5] (ct_P (dC, dI) [(mo, .inr (12, [.int 0, .ref m1, .int 0, .ref m3, .ref m4, .ref m5, .ref m6, .ref m7, .ref m8, .ref m9, .int 0, .ref m11, .ref m12, .ref m13, .ref m14, .ref m15, .ref m16, .ref m17, .ref m18, .ref m19, .int 0, .int 0, .int 0, .int 0, .ref m24, .int 0, .ref m26, .int 0, .ref m28, .ref m29, .ref m30, .ref m31, .ref m32, .ref m33, .ref m34, .ref m35, .ref m36, .int 0, .int 0, .int 0, .int 0, .int 0, .int (-1), .int 0, .ref m44, .ref m45, .ref m46, .ref m47, .ref m48, .int 0, .ref m50, .ref m51, .ref m52, .ref m53, .ref m54, .int 0, .int 0])), (m1, .inl (k1, 400, .inl (fun _ => 0)))] [(k1, .byte)] sz)) (va_Qi (fun (r : Int32) (u : Unit) => r = 20) (fun (u : Unit) => ct_B (dC, dI) (va_A [(mo, .inr (12, [.int 0, .ref m1, .int 0, .ref m3, .ref m4, .ref m5, .ref m6, .ref m7, .ref m8, .ref m9, .int 0, .ref m11, .ref m12, .ref m13, .ref m14, .ref m15, .ref m16, .ref m17, .ref m18, .ref m19, .int 0, .int 0, .int 0, .int 0, .ref m24, .int 0, .ref m26, .int 0, .ref m28, .ref m29, .ref m30, .ref m31, .ref m32, .ref m33, .ref m34, .ref m35, .ref m36, .int 0, .int 0, .int 0, .int 0, .int 0, .int (-1), .int 0, .ref m44, .ref m45, .ref m46, .ref m47, .ref m48, .int 0, .ref m50, .ref m51, .ref m52, .ref m53, .ref m54, .int 0, .int 0])), (m1, .inl (k1, 400, .inl (fun _ => 0)))] sz) [(mo, .inr (12, [.int 0, .ref m1, .int 20, .ref m3, .ref m4, .ref m5, .ref m6, .ref m7, .ref m8, .ref m9, .int 0, .ref m11, .ref m12, .ref m13, .ref m14, .ref m15, .ref m16, .ref m17, .ref m18, .ref m19, .int 0, .int 0, .int 0, .int 0, .ref m24, .int 0, .ref m26, .int 0, .ref m28, .ref m29, .ref m30, .ref m31, .ref m32, .ref m33, .ref m34, .ref m35, .ref m36, .int 0, .int 0, .int 0, .int 0, .int 0, .int (-1), .int 0, .ref m44, .ref m45, .ref m46, .ref m47, .ref m48, .int 0, .ref m50, .ref m51, .ref m52, .ref m53, .ref m54, .int 0, .int 0]))] []) (va_A [(mo, .inr (12, [.int 0, .ref m1, .int 0, .ref m3, .ref m4, .ref m5, .ref m6, .ref m7, .ref m8, .ref m9, .int 0, .ref m11, .ref m12, .ref m13, .ref m14, .ref m15, .ref m16, .ref m17, .ref m18, .ref m19, .int 0, .int 0, .int 0, .int 0, .ref m24, .int 0, .ref m26, .int 0, .ref m28, .ref m29, .ref m30, .ref m31, .ref m32, .ref m33, .ref m34, .ref m35, .ref m36, .int 0, .int 0, .int 0, .int 0, .int 0, .int (-1), .int 0, .ref m44, .ref m45, .ref m46, .ref m47, .ref m48, .int 0, .ref m50, .ref m51, .ref m52, .ref m53, .ref m54, .int 0, .int 0])), (m1, .inl (k1, 400, .inl (fun _ => 0)))] sz)) 0 0 (va_A [(mo, .inr (12, [.int 0, .ref m1, .int 0, .ref m3, .ref m4, .ref m5, .ref m6, .ref m7, .ref m8, .ref m9, .int 0, .ref m11, .ref m12, .ref m13, .ref m14, .ref m15, .ref m16, .ref m17, .ref m18, .ref m19, .int 0, .int 0, .int 0, .int 0, .ref m24, .int 0, .ref m26, .int 0, .ref m28, .ref m29, .ref m30, .ref m31, .ref m32, .ref m33, .ref m34, .ref m35, .ref m36, .int 0, .int 0, .int 0, .int 0, .int 0, .int (-1), .int 0, .ref m44, .ref m45, .ref m46, .ref m47, .ref m48, .int 0, .ref m50, .ref m51, .ref m52, .ref m53, .ref m54, .int 0, .int 0])), (m1, .inl (k1, 400, .inl (fun _ => 0)))] sz) := by
  refine Met.ofW (cc := cX12_feed) (maxL := 6) (ret := (some .int)) (by decide) rfl ?_
  intro p e s m args below meth c s₁ B hml hv
  obtain ⟨rfl, hsz, hP, hK, hD0, hZ⟩ := hv
  have hx := B.exec
  have hb := B.bytes
  have hr := B.returns
  have hts := atoms_spec (ws := wsX12_feed) B.pre
  have hown : s.vm.findClass RX12 = some m.cls := findClass_of_methodNamed B.named
  have hlocks := B.notSynchronized
  have in12 : ∀ w ∈ u_ws RX12 TX12 57, w ∈ wsX12_feed := fun w h => (List.mem_cons_of_mem _ (List.mem_append_right _ h))
  subst hsz
  have hD := hD0.self (sz := s.heap.size)
  generalize hAe : va_A [(mo, .inr (12, [.int 0, .ref m1, .int 0, .ref m3, .ref m4, .ref m5, .ref m6, .ref m7, .ref m8, .ref m9, .int 0, .ref m11, .ref m12, .ref m13, .ref m14, .ref m15, .ref m16, .ref m17, .ref m18, .ref m19, .int 0, .int 0, .int 0, .int 0, .ref m24, .int 0, .ref m26, .int 0, .ref m28, .ref m29, .ref m30, .ref m31, .ref m32, .ref m33, .ref m34, .ref m35, .ref m36, .int 0, .int 0, .int 0, .int 0, .int 0, .int (-1), .int 0, .ref m44, .ref m45, .ref m46, .ref m47, .ref m48, .int 0, .ref m50, .ref m51, .ref m52, .ref m53, .ref m54, .int 0, .int 0])), (m1, .inl (k1, 400, .inl (fun _ => 0)))] s.heap.size = A at hD hZ ⊢
  have hA : ∀ q : Nat, s.heap.size ≤ q → A q := fun q h => by rw [← hAe]; exact Or.inr h
  have hS : va_S A s.heap s.heap [] := va_S.rf
  have hP : va_P (dC, dI) vwCl [(mo, .inr (12, [.int 0, .ref m1, .int 0, .ref m3, .ref m4, .ref m5, .ref m6, .ref m7, .ref m8, .ref m9, .int 0, .ref m11, .ref m12, .ref m13, .ref m14, .ref m15, .ref m16, .ref m17, .ref m18, .ref m19, .int 0, .int 0, .int 0, .int 0, .ref m24, .int 0, .ref m26, .int 0, .ref m28, .ref m29, .ref m30, .ref m31, .ref m32, .ref m33, .ref m34, .ref m35, .ref m36, .int 0, .int 0, .int 0, .int 0, .int 0, .int (-1), .int 0, .ref m44, .ref m45, .ref m46, .ref m47, .ref m48, .int 0, .ref m50, .ref m51, .ref m52, .ref m53, .ref m54, .int 0, .int 0])), (m1, .inl (k1, 400, .inl (fun _ => 0)))] s.heap := hP
  have hK : va_K (dC, dI) vwCl [(k1, .byte)] s := hK
  have hD : va_D A [(mo, .inr (12, [.int 0, .ref m1, .int 0, .ref m3, .ref m4, .ref m5, .ref m6, .ref m7, .ref m8, .ref m9, .int 0, .ref m11, .ref m12, .ref m13, .ref m14, .ref m15, .ref m16, .ref m17, .ref m18, .ref m19, .int 0, .int 0, .int 0, .int 0, .ref m24, .int 0, .ref m26, .int 0, .ref m28, .ref m29, .ref m30, .ref m31, .ref m32, .ref m33, .ref m34, .ref m35, .ref m36, .int 0, .int 0, .int 0, .int 0, .int 0, .int (-1), .int 0, .ref m44, .ref m45, .ref m46, .ref m47, .ref m48, .int 0, .ref m50, .ref m51, .ref m52, .ref m53, .ref m54, .int 0, .int 0])), (m1, .inl (k1, 400, .inl (fun _ => 0)))] := hD
  have hl := lv_entry ([.ref mo, .int b1, .int b2, .int b3, .int b4, .int b5]) (n := 6) (Nat.le_of_ble_eq_true rfl)
  rw [lg_entry_eq]
  generalize (lg_sl ([.ref mo, .int b1, .int b2, .int b3, .int b4, .int b5]) ++ List.replicate (6 - (lg_sl ([.ref mo, .int b1, .int b2, .int b3, .int b4, .int b5])).length) Slot.unset).toArray = ls at hl ⊢
  have hl : lv_has ls 6 [(0, .ref mo), (1, .int b1), (2, .int b2), (3, .int b3), (4, .int b4), (5, .int b5)] := hl
  refine lv_aload_n hx hb dX12_feed_0 rfl (lv_at hl 0 rfl) ?_
  refine lv_aload_n hx hb dX12_feed_1 rfl (lv_at hl 0 rfl) ?_
  refine va_get (D := (dC, dI)) (ci := 12) (v := .int 0) (C := RX12) (T := TX12) (N := 57) hx hb hts in12 hown hK hP 0 rfl rfl 2 (by decide) (hts (.fieldLink RX12 133 "FactKeeperModel" "taped" "I") (by decide +kernel)) (fun _ h9 => h9) rfl dX12_feed_2 ?_
  refine lv_bipush (v := 20) hx hb dX12_feed_5 (by decide) ?_
  refine lv_iadd hx hb dX12_feed_7 ?_
  refine lv_topi (fun z_1 ez_1 => ?_)
  obtain rfl : z_1 = 20 := ez_1.trans (by decide)
  refine lv_sipush (v := 400) hx hb dX12_feed_8 (by decide) ?_
  refine lv_icmp_le (tgt := 18) hx hb dX12_feed_11 (by decide) (fun _ => ?_) (fun c_2 => absurd c_2 (by decide))
  refine lv_iconst (v := 0) hx hb dX12_feed_18 (by decide) ?_
  refine ct_i (wr := [(m1, .inl (k1, 400, .inl (fun _ => 0)))]) (tyr := [(k1, .byte)]) (va_runV (As := [.int 0]) (rest := []) ⟨hx, hb, hml, hown, hts⟩ (c_fails0 l hl0 dC dI mo m1 m3 m4 m5 m6 m7 m8 m9 m11 m12 m13 m14 m15 m16 m17 m18 m19 m24 m26 m28 m29 m30 m31 m32 m33 m34 m35 m36 m44 m45 m46 m47 m48 m50 m51 m52 m53 m54 0 0 0 (-1) 0 0 s.heap.size ) (cwV 1 hts gX12_feed_X12_fails rfl rfl rfl (by decide +kernel) ⟨Nat.le_of_ble_eq_true rfl, Nat.le_of_ble_eq_true rfl⟩) (ct_preV (ci := 12) (q0 := 0) hP hD hK hS hA hZ rfl rfl [0] [] rfl (by decide) rfl) rfl rfl hl.1 rfl (lv_room (Nat.le_of_ble_eq_true rfl)) dX12_feed_19 ⟨Nat.le_of_ble_eq_true rfl, Nat.le_of_ble_eq_true rfl⟩) hP hD hK hS hA [0] [1] [0] rfl rfl (by decide) (by decide) rfl (fun r_3 u H locs w_4 hP hD hK hS => ?_)
  try dsimp only at w_4
  have hP : va_P (dC, dI) vwCl [(m1, .inl (k1, 400, .inl (fun _ => 0))), (mo, .inr (12, [.int 0, .ref m1, .int 0, .ref m3, .ref m4, .ref m5, .ref m6, .ref m7, .ref m8, .ref m9, .int 0, .ref m11, .ref m12, .ref m13, .ref m14, .ref m15, .ref m16, .ref m17, .ref m18, .ref m19, .int 0, .int 0, .int 0, .int 0, .ref m24, .int 0, .ref m26, .int 0, .ref m28, .ref m29, .ref m30, .ref m31, .ref m32, .ref m33, .ref m34, .ref m35, .ref m36, .int 0, .int 0, .int 0, .int 0, .int 0, .int (-1), .int 0, .ref m44, .ref m45, .ref m46, .ref m47, .ref m48, .int 0, .ref m50, .ref m51, .ref m52, .ref m53, .ref m54, .int 0, .int 0]))] H := hP
  have hD : va_D A [(m1, .inl (k1, 400, .inl (fun _ => 0))), (mo, .inr (12, [.int 0, .ref m1, .int 0, .ref m3, .ref m4, .ref m5, .ref m6, .ref m7, .ref m8, .ref m9, .int 0, .ref m11, .ref m12, .ref m13, .ref m14, .ref m15, .ref m16, .ref m17, .ref m18, .ref m19, .int 0, .int 0, .int 0, .int 0, .ref m24, .int 0, .ref m26, .int 0, .ref m28, .ref m29, .ref m30, .ref m31, .ref m32, .ref m33, .ref m34, .ref m35, .ref m36, .int 0, .int 0, .int 0, .int 0, .int 0, .int (-1), .int 0, .ref m44, .ref m45, .ref m46, .ref m47, .ref m48, .int 0, .ref m50, .ref m51, .ref m52, .ref m53, .ref m54, .int 0, .int 0]))] := hD
  have hK : va_K (dC, dI) vwCl [(k1, .byte)] s := hK
  obtain rfl : r_3 = 0 := w_4
  refine lv_if_eq (tgt := 27) hx hb dX12_feed_22 (by decide) (fun _ => ?_) (fun c_5 => absurd c_5 (by decide))
  refine lv_aload_n hx hb dX12_feed_27 rfl (lv_at hl 0 rfl) ?_
  refine lv_iload_n hx hb dX12_feed_28 rfl (lv_at hl 1 rfl) ?_
  refine ct_v (wr := []) (tyr := []) (va_runV (As := [.int b1]) (rest := []) ⟨hx, hb, hml, hown, hts⟩ (m_four0 l hl0 dC dI mo m1 m3 m4 m5 m6 m7 m8 m9 m11 m12 m13 m14 m15 m16 m17 m18 m19 m24 m26 m28 m29 m30 m31 m32 m33 m34 m35 m36 m44 m45 m46 m47 m48 m50 m51 m52 m53 m54 k1 (fun _ => 0) b1 H.size ) (cwV 1 hts gX12_feed_X12_four rfl rfl rfl (by decide +kernel) ⟨Nat.le_of_ble_eq_true rfl, Nat.le_of_ble_eq_true rfl⟩) (ct_preV (ci := 12) (q0 := 1) hP hD hK hS hA hZ rfl rfl [1, 0] [0] rfl (by decide) rfl) rfl rfl hl.1 rfl (lv_room (Nat.le_of_ble_eq_true rfl)) dX12_feed_29 ⟨Nat.le_of_ble_eq_true rfl, Nat.le_of_ble_eq_true rfl⟩) hP hD hK hS hA [1, 0] [] [] rfl rfl (by decide) (by decide) rfl (fun u H locs w_8 hP hD hK hS => ?_)
  obtain ⟨o_6, rfl⟩ : ∃ z, z = u := ⟨_, rfl⟩
  try dsimp only at w_8
  have hP : va_P (dC, dI) vwCl [(mo, .inr (12, [.int 0, .ref m1, .int 4, .ref m3, .ref m4, .ref m5, .ref m6, .ref m7, .ref m8, .ref m9, .int 0, .ref m11, .ref m12, .ref m13, .ref m14, .ref m15, .ref m16, .ref m17, .ref m18, .ref m19, .int 0, .int 0, .int 0, .int 0, .ref m24, .int 0, .ref m26, .int 0, .ref m28, .ref m29, .ref m30, .ref m31, .ref m32, .ref m33, .ref m34, .ref m35, .ref m36, .int 0, .int 0, .int 0, .int 0, .int 0, .int (-1), .int 0, .ref m44, .ref m45, .ref m46, .ref m47, .ref m48, .int 0, .ref m50, .ref m51, .ref m52, .ref m53, .ref m54, .int 0, .int 0])), (m1, .inl (k1, 400, .inl o_6))] H := hP
  have hD : va_D A [(mo, .inr (12, [.int 0, .ref m1, .int 4, .ref m3, .ref m4, .ref m5, .ref m6, .ref m7, .ref m8, .ref m9, .int 0, .ref m11, .ref m12, .ref m13, .ref m14, .ref m15, .ref m16, .ref m17, .ref m18, .ref m19, .int 0, .int 0, .int 0, .int 0, .ref m24, .int 0, .ref m26, .int 0, .ref m28, .ref m29, .ref m30, .ref m31, .ref m32, .ref m33, .ref m34, .ref m35, .ref m36, .int 0, .int 0, .int 0, .int 0, .int 0, .int (-1), .int 0, .ref m44, .ref m45, .ref m46, .ref m47, .ref m48, .int 0, .ref m50, .ref m51, .ref m52, .ref m53, .ref m54, .int 0, .int 0])), (m1, .inl (k1, 400, .inl o_6))] := hD
  have hK : va_K (dC, dI) vwCl [(k1, .byte)] s := hK
  refine lv_aload_n hx hb dX12_feed_32 rfl (lv_at hl 0 rfl) ?_
  refine lv_iload_n hx hb dX12_feed_33 rfl (lv_at hl 2 rfl) ?_
  refine ct_v (wr := []) (tyr := []) (va_runV (As := [.int b2]) (rest := []) ⟨hx, hb, hml, hown, hts⟩ (m_four4 l hl0 dC dI mo m1 m3 m4 m5 m6 m7 m8 m9 m11 m12 m13 m14 m15 m16 m17 m18 m19 m24 m26 m28 m29 m30 m31 m32 m33 m34 m35 m36 m44 m45 m46 m47 m48 m50 m51 m52 m53 m54 k1 o_6 b2 H.size ) (cwV 1 hts gX12_feed_X12_four rfl rfl rfl (by decide +kernel) ⟨Nat.le_of_ble_eq_true rfl, Nat.le_of_ble_eq_true rfl⟩) (ct_preV (ci := 12) (q0 := 0) hP hD hK hS hA hZ rfl rfl [0, 1] [0] rfl (by decide) rfl) rfl rfl hl.1 rfl (lv_room (Nat.le_of_ble_eq_true rfl)) dX12_feed_34 ⟨Nat.le_of_ble_eq_true rfl, Nat.le_of_ble_eq_true rfl⟩) hP hD hK hS hA [0, 1] [] [] rfl rfl (by decide) (by decide) rfl (fun u H locs w_11 hP hD hK hS => ?_)
  obtain ⟨o_9, rfl⟩ : ∃ z, z = u := ⟨_, rfl⟩
  try dsimp only at w_11
  have hP : va_P (dC, dI) vwCl [(mo, .inr (12, [.int 0, .ref m1, .int 8, .ref m3, .ref m4, .ref m5, .ref m6, .ref m7, .ref m8, .ref m9, .int 0, .ref m11, .ref m12, .ref m13, .ref m14, .ref m15, .ref m16, .ref m17, .ref m18, .ref m19, .int 0, .int 0, .int 0, .int 0, .ref m24, .int 0, .ref m26, .int 0, .ref m28, .ref m29, .ref m30, .ref m31, .ref m32, .ref m33, .ref m34, .ref m35, .ref m36, .int 0, .int 0, .int 0, .int 0, .int 0, .int (-1), .int 0, .ref m44, .ref m45, .ref m46, .ref m47, .ref m48, .int 0, .ref m50, .ref m51, .ref m52, .ref m53, .ref m54, .int 0, .int 0])), (m1, .inl (k1, 400, .inl o_9))] H := hP
  have hD : va_D A [(mo, .inr (12, [.int 0, .ref m1, .int 8, .ref m3, .ref m4, .ref m5, .ref m6, .ref m7, .ref m8, .ref m9, .int 0, .ref m11, .ref m12, .ref m13, .ref m14, .ref m15, .ref m16, .ref m17, .ref m18, .ref m19, .int 0, .int 0, .int 0, .int 0, .ref m24, .int 0, .ref m26, .int 0, .ref m28, .ref m29, .ref m30, .ref m31, .ref m32, .ref m33, .ref m34, .ref m35, .ref m36, .int 0, .int 0, .int 0, .int 0, .int 0, .int (-1), .int 0, .ref m44, .ref m45, .ref m46, .ref m47, .ref m48, .int 0, .ref m50, .ref m51, .ref m52, .ref m53, .ref m54, .int 0, .int 0])), (m1, .inl (k1, 400, .inl o_9))] := hD
  have hK : va_K (dC, dI) vwCl [(k1, .byte)] s := hK
  refine lv_aload_n hx hb dX12_feed_37 rfl (lv_at hl 0 rfl) ?_
  refine lv_iload_n hx hb dX12_feed_38 rfl (lv_at hl 3 rfl) ?_
  refine ct_v (wr := []) (tyr := []) (va_runV (As := [.int b3]) (rest := []) ⟨hx, hb, hml, hown, hts⟩ (m_four8 l hl0 dC dI mo m1 m3 m4 m5 m6 m7 m8 m9 m11 m12 m13 m14 m15 m16 m17 m18 m19 m24 m26 m28 m29 m30 m31 m32 m33 m34 m35 m36 m44 m45 m46 m47 m48 m50 m51 m52 m53 m54 k1 o_9 b3 H.size ) (cwV 1 hts gX12_feed_X12_four rfl rfl rfl (by decide +kernel) ⟨Nat.le_of_ble_eq_true rfl, Nat.le_of_ble_eq_true rfl⟩) (ct_preV (ci := 12) (q0 := 0) hP hD hK hS hA hZ rfl rfl [0, 1] [0] rfl (by decide) rfl) rfl rfl hl.1 rfl (lv_room (Nat.le_of_ble_eq_true rfl)) dX12_feed_39 ⟨Nat.le_of_ble_eq_true rfl, Nat.le_of_ble_eq_true rfl⟩) hP hD hK hS hA [0, 1] [] [] rfl rfl (by decide) (by decide) rfl (fun u H locs w_14 hP hD hK hS => ?_)
  obtain ⟨o_12, rfl⟩ : ∃ z, z = u := ⟨_, rfl⟩
  try dsimp only at w_14
  have hP : va_P (dC, dI) vwCl [(mo, .inr (12, [.int 0, .ref m1, .int 12, .ref m3, .ref m4, .ref m5, .ref m6, .ref m7, .ref m8, .ref m9, .int 0, .ref m11, .ref m12, .ref m13, .ref m14, .ref m15, .ref m16, .ref m17, .ref m18, .ref m19, .int 0, .int 0, .int 0, .int 0, .ref m24, .int 0, .ref m26, .int 0, .ref m28, .ref m29, .ref m30, .ref m31, .ref m32, .ref m33, .ref m34, .ref m35, .ref m36, .int 0, .int 0, .int 0, .int 0, .int 0, .int (-1), .int 0, .ref m44, .ref m45, .ref m46, .ref m47, .ref m48, .int 0, .ref m50, .ref m51, .ref m52, .ref m53, .ref m54, .int 0, .int 0])), (m1, .inl (k1, 400, .inl o_12))] H := hP
  have hD : va_D A [(mo, .inr (12, [.int 0, .ref m1, .int 12, .ref m3, .ref m4, .ref m5, .ref m6, .ref m7, .ref m8, .ref m9, .int 0, .ref m11, .ref m12, .ref m13, .ref m14, .ref m15, .ref m16, .ref m17, .ref m18, .ref m19, .int 0, .int 0, .int 0, .int 0, .ref m24, .int 0, .ref m26, .int 0, .ref m28, .ref m29, .ref m30, .ref m31, .ref m32, .ref m33, .ref m34, .ref m35, .ref m36, .int 0, .int 0, .int 0, .int 0, .int 0, .int (-1), .int 0, .ref m44, .ref m45, .ref m46, .ref m47, .ref m48, .int 0, .ref m50, .ref m51, .ref m52, .ref m53, .ref m54, .int 0, .int 0])), (m1, .inl (k1, 400, .inl o_12))] := hD
  have hK : va_K (dC, dI) vwCl [(k1, .byte)] s := hK
  refine lv_aload_n hx hb dX12_feed_42 rfl (lv_at hl 0 rfl) ?_
  refine lv_iload hx hb dX12_feed_43 (lv_at hl 4 rfl) ?_
  refine ct_v (wr := []) (tyr := []) (va_runV (As := [.int b4]) (rest := []) ⟨hx, hb, hml, hown, hts⟩ (m_four12 l hl0 dC dI mo m1 m3 m4 m5 m6 m7 m8 m9 m11 m12 m13 m14 m15 m16 m17 m18 m19 m24 m26 m28 m29 m30 m31 m32 m33 m34 m35 m36 m44 m45 m46 m47 m48 m50 m51 m52 m53 m54 k1 o_12 b4 H.size ) (cwV 1 hts gX12_feed_X12_four rfl rfl rfl (by decide +kernel) ⟨Nat.le_of_ble_eq_true rfl, Nat.le_of_ble_eq_true rfl⟩) (ct_preV (ci := 12) (q0 := 0) hP hD hK hS hA hZ rfl rfl [0, 1] [0] rfl (by decide) rfl) rfl rfl hl.1 rfl (lv_room (Nat.le_of_ble_eq_true rfl)) dX12_feed_45 ⟨Nat.le_of_ble_eq_true rfl, Nat.le_of_ble_eq_true rfl⟩) hP hD hK hS hA [0, 1] [] [] rfl rfl (by decide) (by decide) rfl (fun u H locs w_17 hP hD hK hS => ?_)
  obtain ⟨o_15, rfl⟩ : ∃ z, z = u := ⟨_, rfl⟩
  try dsimp only at w_17
  have hP : va_P (dC, dI) vwCl [(mo, .inr (12, [.int 0, .ref m1, .int 16, .ref m3, .ref m4, .ref m5, .ref m6, .ref m7, .ref m8, .ref m9, .int 0, .ref m11, .ref m12, .ref m13, .ref m14, .ref m15, .ref m16, .ref m17, .ref m18, .ref m19, .int 0, .int 0, .int 0, .int 0, .ref m24, .int 0, .ref m26, .int 0, .ref m28, .ref m29, .ref m30, .ref m31, .ref m32, .ref m33, .ref m34, .ref m35, .ref m36, .int 0, .int 0, .int 0, .int 0, .int 0, .int (-1), .int 0, .ref m44, .ref m45, .ref m46, .ref m47, .ref m48, .int 0, .ref m50, .ref m51, .ref m52, .ref m53, .ref m54, .int 0, .int 0])), (m1, .inl (k1, 400, .inl o_15))] H := hP
  have hD : va_D A [(mo, .inr (12, [.int 0, .ref m1, .int 16, .ref m3, .ref m4, .ref m5, .ref m6, .ref m7, .ref m8, .ref m9, .int 0, .ref m11, .ref m12, .ref m13, .ref m14, .ref m15, .ref m16, .ref m17, .ref m18, .ref m19, .int 0, .int 0, .int 0, .int 0, .ref m24, .int 0, .ref m26, .int 0, .ref m28, .ref m29, .ref m30, .ref m31, .ref m32, .ref m33, .ref m34, .ref m35, .ref m36, .int 0, .int 0, .int 0, .int 0, .int 0, .int (-1), .int 0, .ref m44, .ref m45, .ref m46, .ref m47, .ref m48, .int 0, .ref m50, .ref m51, .ref m52, .ref m53, .ref m54, .int 0, .int 0])), (m1, .inl (k1, 400, .inl o_15))] := hD
  have hK : va_K (dC, dI) vwCl [(k1, .byte)] s := hK
  refine lv_aload_n hx hb dX12_feed_48 rfl (lv_at hl 0 rfl) ?_
  refine lv_iload hx hb dX12_feed_49 (lv_at hl 5 rfl) ?_
  refine ct_v (wr := []) (tyr := []) (va_runV (As := [.int b5]) (rest := []) ⟨hx, hb, hml, hown, hts⟩ (m_four16 l hl0 dC dI mo m1 m3 m4 m5 m6 m7 m8 m9 m11 m12 m13 m14 m15 m16 m17 m18 m19 m24 m26 m28 m29 m30 m31 m32 m33 m34 m35 m36 m44 m45 m46 m47 m48 m50 m51 m52 m53 m54 k1 o_15 b5 H.size ) (cwV 1 hts gX12_feed_X12_four rfl rfl rfl (by decide +kernel) ⟨Nat.le_of_ble_eq_true rfl, Nat.le_of_ble_eq_true rfl⟩) (ct_preV (ci := 12) (q0 := 0) hP hD hK hS hA hZ rfl rfl [0, 1] [0] rfl (by decide) rfl) rfl rfl hl.1 rfl (lv_room (Nat.le_of_ble_eq_true rfl)) dX12_feed_51 ⟨Nat.le_of_ble_eq_true rfl, Nat.le_of_ble_eq_true rfl⟩) hP hD hK hS hA [0, 1] [] [] rfl rfl (by decide) (by decide) rfl (fun u H locs w_20 hP hD hK hS => ?_)
  obtain ⟨o_18, rfl⟩ : ∃ z, z = u := ⟨_, rfl⟩
  try dsimp only at w_20
  have hP : va_P (dC, dI) vwCl [(mo, .inr (12, [.int 0, .ref m1, .int 20, .ref m3, .ref m4, .ref m5, .ref m6, .ref m7, .ref m8, .ref m9, .int 0, .ref m11, .ref m12, .ref m13, .ref m14, .ref m15, .ref m16, .ref m17, .ref m18, .ref m19, .int 0, .int 0, .int 0, .int 0, .ref m24, .int 0, .ref m26, .int 0, .ref m28, .ref m29, .ref m30, .ref m31, .ref m32, .ref m33, .ref m34, .ref m35, .ref m36, .int 0, .int 0, .int 0, .int 0, .int 0, .int (-1), .int 0, .ref m44, .ref m45, .ref m46, .ref m47, .ref m48, .int 0, .ref m50, .ref m51, .ref m52, .ref m53, .ref m54, .int 0, .int 0])), (m1, .inl (k1, 400, .inl o_18))] H := hP
  have hD : va_D A [(mo, .inr (12, [.int 0, .ref m1, .int 20, .ref m3, .ref m4, .ref m5, .ref m6, .ref m7, .ref m8, .ref m9, .int 0, .ref m11, .ref m12, .ref m13, .ref m14, .ref m15, .ref m16, .ref m17, .ref m18, .ref m19, .int 0, .int 0, .int 0, .int 0, .ref m24, .int 0, .ref m26, .int 0, .ref m28, .ref m29, .ref m30, .ref m31, .ref m32, .ref m33, .ref m34, .ref m35, .ref m36, .int 0, .int 0, .int 0, .int 0, .int 0, .int (-1), .int 0, .ref m44, .ref m45, .ref m46, .ref m47, .ref m48, .int 0, .ref m50, .ref m51, .ref m52, .ref m53, .ref m54, .int 0, .int 0])), (m1, .inl (k1, 400, .inl o_18))] := hD
  have hK : va_K (dC, dI) vwCl [(k1, .byte)] s := hK
  refine lv_aload_n hx hb dX12_feed_54 rfl (lv_at hl 0 rfl) ?_
  refine va_get (D := (dC, dI)) (ci := 12) (v := .int 20) (C := RX12) (T := TX12) (N := 57) hx hb hts in12 hown hK hP 0 rfl rfl 2 (by decide) (hts (.fieldLink RX12 133 "FactKeeperModel" "taped" "I") (by decide +kernel)) (fun _ h9 => h9) rfl dX12_feed_55 ?_
  have hP9 := hP.sub (ws' := [(mo, .inr (12, [.int 0, .ref m1, .int 20, .ref m3, .ref m4, .ref m5, .ref m6, .ref m7, .ref m8, .ref m9, .int 0, .ref m11, .ref m12, .ref m13, .ref m14, .ref m15, .ref m16, .ref m17, .ref m18, .ref m19, .int 0, .int 0, .int 0, .int 0, .ref m24, .int 0, .ref m26, .int 0, .ref m28, .ref m29, .ref m30, .ref m31, .ref m32, .ref m33, .ref m34, .ref m35, .ref m36, .int 0, .int 0, .int 0, .int 0, .int 0, .int (-1), .int 0, .ref m44, .ref m45, .ref m46, .ref m47, .ref m48, .int 0, .ref m50, .ref m51, .ref m52, .ref m53, .ref m54, .int 0, .int 0]))]) [0] rfl
  have hD9 := hD.sub (ws' := [(mo, .inr (12, [.int 0, .ref m1, .int 20, .ref m3, .ref m4, .ref m5, .ref m6, .ref m7, .ref m8, .ref m9, .int 0, .ref m11, .ref m12, .ref m13, .ref m14, .ref m15, .ref m16, .ref m17, .ref m18, .ref m19, .int 0, .int 0, .int 0, .int 0, .ref m24, .int 0, .ref m26, .int 0, .ref m28, .ref m29, .ref m30, .ref m31, .ref m32, .ref m33, .ref m34, .ref m35, .ref m36, .int 0, .int 0, .int 0, .int 0, .int 0, .int (-1), .int 0, .ref m44, .ref m45, .ref m46, .ref m47, .ref m48, .int 0, .ref m50, .ref m51, .ref m52, .ref m53, .ref m54, .int 0, .int 0]))]) [0] (by decide) rfl
  have hK9 := hK.sub (tys' := []) [] rfl
  refine W.widen (k := 0) (n := 0) (Nat.le_of_ble_eq_true rfl) (Nat.le_of_ble_eq_true rfl) ?_
  exact (W.iret (v := 20) hx hb hr (fun t ht hW => ⟨⟨20, (), rfl, rfl, by rw [ht]; exact hP9, va_K.moved hW.alike hK9, hD9⟩, hS.F ht⟩) hS.2.2 dX12_feed_58)
