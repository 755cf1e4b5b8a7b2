set_option maxHeartbeats 8000000 in
set_option maxRecDepth 100000 in
/-- from the entry, for every script of at most 6 ints, the law comes to its end with true -/
theorem whole_start {p : Program} {e : Env} {s : State} {m : MethodId} {below : List Frame} {meth : Method} {c : Code} (l : Launch) (hl0 : l.stackTraces = false) {b L : Nat} {xs : Nat → Int32} (hL : L ≤ 6) (C0 : lw_At p s m meth c b L xs) : W p l e room_1 s m #[Value.ref b] below meth c s.heap [] 0 0 (lw_Z below #[Value.ref b] s) (entryFrame m ([Value.ref b] : List Value).toArray 7) := by
  obtain ⟨hx, hb, hr, hml, hown, htl, hX, hbl, hlocks, hgv⟩ := C0
  have hts : ∀ w ∈ wsL_law, w.before #[Value.ref b] s = true := fun w h => htl w (wsL_law_in w h)
  have hgs := flat_of_before _ hgv
  obtain ⟨A, hAe⟩ : ∃ A : Nat → Prop, A = (fun q : Nat => s.heap.size ≤ q) := ⟨_, rfl⟩
  have hA : ∀ q : Nat, s.heap.size ≤ q → A q := fun q h => by rw [hAe]; exact h
  have hAo : ∀ q : Nat, A q → s.heap.size ≤ q := fun q h => by rw [hAe] at h; exact h
  have hbA : ¬ A b := fun q => absurd (hAo b q) (Nat.not_le.mpr hbl)
  have hZ : tx_St A s := law_St htl hgv (fun a h q => absurd (hAo a q) (Nat.not_le.mpr h))
  obtain ⟨c0, iS0, hKn0⟩ := u_known (C := RX0) (T := TX0) (N := 5) (n := 5) hts inlX0 (hts (.instantiable RX0 5) (by decide +kernel))
  obtain ⟨c1, iS1, hKn1⟩ := u_known (C := RX1) (T := TX1) (N := 7) (n := 7) hts inlX1 (hts (.instantiable RX1 7) (by decide +kernel))
  obtain ⟨c2, iS2, hKn2⟩ := u_known (C := RX2) (T := TX2) (N := 6) (n := 6) hts inlX2 (hts (.instantiable RX2 6) (by decide +kernel))
  obtain ⟨c3, iS3, hKn3⟩ := u_known (C := RX3) (T := TX3) (N := 5) (n := 5) hts inlX3 (hts (.instantiable RX3 5) (by decide +kernel))
  obtain ⟨c4, iS4, hKn4⟩ := u_known (C := RX4) (T := TX4) (N := 2) (n := 2) hts inlX4 (hts (.instantiable RX4 2) (by decide +kernel))
  obtain ⟨c5, iS5, hKn5⟩ := u_known (C := RX5) (T := TX5) (N := 8) (n := 8) hts inlX5 (hts (.instantiable RX5 8) (by decide +kernel))
  obtain ⟨c6, iS6, hKn6⟩ := u_known (C := RX6) (T := TX6) (N := 8) (n := 8) hts inlX6 (hts (.instantiable RX6 8) (by decide +kernel))
  obtain ⟨c7, iS7, hKn7⟩ := u_known (C := RX7) (T := TX7) (N := 3) (n := 3) hts inlX7 (hts (.instantiable RX7 3) (by decide +kernel))
  obtain ⟨c8, iS8, hKn8⟩ := u_known (C := RX8) (T := TX8) (N := 8) (n := 8) hts inlX8 (hts (.instantiable RX8 8) (by decide +kernel))
  obtain ⟨c9, iS9, hKn9⟩ := u_known (C := RX9) (T := TX9) (N := 8) (n := 8) hts inlX9 (hts (.instantiable RX9 8) (by decide +kernel))
  obtain ⟨c10, iS10, hKn10⟩ := u_known (C := RX10) (T := TX10) (N := 6) (n := 6) hts inlX10 (hts (.instantiable RX10 6) (by decide +kernel))
  obtain ⟨c11, iS11, hKn11⟩ := u_known (C := RX11) (T := TX11) (N := 12) (n := 12) hts inlX11 (hts (.instantiable RX11 12) (by decide +kernel))
  obtain ⟨c12, iS12, hKn12⟩ := u_known (C := RX12) (T := TX12) (N := 57) (n := 57) hts inlX12 (hts (.instantiable RX12 57) (by decide +kernel))
  obtain ⟨dC, dI, hKc⟩ : ∃ (dC : Nat → ClassId) (dI : Nat → Nat → Nat), ∀ (k : Nat) (q : vw_C), vwCl[k]? = some q → u_Kn s q.1 q.2.1 q.2.2 (dC k) (dI k) := by
    refine ⟨fun k => match k with | 0 => c0 | 1 => c1 | 2 => c2 | 3 => c3 | 4 => c4 | 5 => c5 | 6 => c6 | 7 => c7 | 8 => c8 | 9 => c9 | 10 => c10 | 11 => c11 | _ => c12, fun k => match k with | 0 => iS0 | 1 => iS1 | 2 => iS2 | 3 => iS3 | 4 => iS4 | 5 => iS5 | 6 => iS6 | 7 => iS7 | 8 => iS8 | 9 => iS9 | 10 => iS10 | 11 => iS11 | _ => iS12, ?_⟩
    intro k q hq
    match k, hq with
    | 0, hq => cases hq; exact hKn0
    | 1, hq => cases hq; exact hKn1
    | 2, hq => cases hq; exact hKn2
    | 3, hq => cases hq; exact hKn3
    | 4, hq => cases hq; exact hKn4
    | 5, hq => cases hq; exact hKn5
    | 6, hq => cases hq; exact hKn6
    | 7, hq => cases hq; exact hKn7
    | 8, hq => cases hq; exact hKn8
    | 9, hq => cases hq; exact hKn9
    | 10, hq => cases hq; exact hKn10
    | 11, hq => cases hq; exact hKn11
    | 12, hq => cases hq; exact hKn12
    | k + 13, hq => simp [vwCl] at hq
  have hS : va_S A s.heap s.heap [] := va_S.rf
  have hK : va_K (dC, dI) vwCl [] s := ⟨hKc, fun k q h => by simp at h⟩
  have hP : va_P (dC, dI) vwCl [] s.heap := fun k q h => by simp at h
  have hD : va_D A [] := ⟨fun i j p q h => by simp at h, fun k q h => by simp at h⟩
  have hl := lv_entry ([.ref b]) (n := 7) (Nat.le_of_ble_eq_true rfl)
  rw [lg_entry_eq]
  generalize (lg_sl ([.ref b]) ++ List.replicate (7 - (lg_sl ([.ref b])).length) Slot.unset).toArray = ls at hl ⊢
  have hl : lv_has ls 7 [(0, .ref b)] := hl
  have in11 := inlX11
  have in12 := inlX12
  refine va_new (ci := 11) (fs := [.null, .null, .null, .null, .null, .null, .null, .null, .null, .int 0, .int 0, .int 0]) (C := RX11) (T := TX11) (N := 12) hx hb hts in11 tyX11 tyX11_ok hown (hts (.classLink RL 8 RX11) (by decide +kernel)) (hts (.instantiable RX11 12) (by decide +kernel)) (hts (.initialized RX11) (by decide +kernel)) hK hP hD hS hA rfl (fun j hj => by rcases (show j = 0 ∨ j = 1 ∨ j = 2 ∨ j = 3 ∨ j = 4 ∨ j = 5 ∨ j = 6 ∨ j = 7 ∨ j = 8 ∨ j = 9 ∨ j = 10 ∨ j = 11 by omega) with rfl | rfl | rfl | rfl | rfl | rfl | rfl | rfl | rfl | rfl | rfl | rfl <;> rfl) (Nat.le_of_ble_eq_true rfl) (Nat.le_of_ble_eq_true rfl) dL_law_0 (fun q_1 H hP hD hS => ?_)
  have hP : va_P (dC, dI) vwCl [(q_1, .inr (11, [.null, .null, .null, .null, .null, .null, .null, .null, .null, .int 0, .int 0, .int 0]))] H := hP
  have hD : va_D A [(q_1, .inr (11, [.null, .null, .null, .null, .null, .null, .null, .null, .null, .int 0, .int 0, .int 0]))] := hD
  refine W.widen (k := 1) (n := 12) (Nat.le_of_ble_eq_true rfl) (Nat.le_of_ble_eq_true rfl) ?_
  refine lv_dup hx hb dL_law_3 rfl ?_
  refine ct_v (wr := []) (tyr := []) (va_runI (As := []) (rest := [.ref q_1]) ⟨hx, hb, hml, hown, hts⟩ (n_keeper l hl0 dC dI q_1 H.size ) (cwI 0 hts gL_law_X11_init rfl rfl rfl (hts (.initialized RX11) (by decide +kernel)) (hts (.methodLink RL 93 yX11_init) (by decide +kernel)) (hts (.instanceMethod yX11_init) (by decide +kernel)) rfl (by decide +kernel) ⟨Nat.le_of_ble_eq_true rfl, Nat.le_of_ble_eq_true rfl⟩) (ct_pre hP hD hK hS hA hZ [0] [] rfl (by decide) rfl) rfl rfl hl.1 rfl (lv_room (Nat.le_of_ble_eq_true rfl)) dL_law_4 ⟨Nat.le_of_ble_eq_true rfl, Nat.le_of_ble_eq_true rfl⟩) hP hD hK hS hA [0] [] [] rfl rfl (by decide) (by decide) rfl (fun u H locs w_37 hP hD hK hS => ?_)
  obtain ⟨o_2, o_3, o_4, o_5, o_6, o_7, o_8, o_9, o_10, o_11, o_12, o_13, o_14, o_15, o_16, o_17, o_18, o_19, o_20, o_21, o_22, o_23, o_24, o_25, o_26, o_27, o_28, o_29, o_30, o_31, o_32, o_33, o_34, o_35⟩ := u
  try dsimp only at w_37
  have hP : va_P (dC, dI) vwCl [(q_1, .inr (11, [.ref o_2, .ref o_3, .ref o_4, .ref o_5, .ref o_6, .ref o_7, .ref o_8, .ref o_9, .ref o_10, .int 0, .int 0, .int 0])), (o_2, .inl (o_11, 400, .inl (fun _ => 0))), (o_3, .inl (o_12, 4, .inl (fun _ => 0))), (o_6, .inl (o_13, 10, .inl (fun _ => 0))), (o_4, .inr (9, [.ref o_14, .ref o_15, .ref o_16, .int 0, .int 0, .int 0, .int 0, .int 0])), (o_14, .inl (o_17, 12, .inr (.inr (.inr (.inr (fun _ => none)))))), (o_16, .inr (3, [.ref o_18, .ref o_19, .ref o_20, .int 0, .int 0])), (o_20, .inl (o_21, 8, .inl (fun _ => 0))), (o_9, .inr (6, [.ref o_22, .int 0, .int 0, .int (-1), .null, .int 0, .int 0, .null])), (o_22, .inl (o_23, 10, .inr (.inr (.inr (.inr o_24))))), (o_25, .inr (2, [.ref o_26, .ref o_27, .int 0, .null, .int 0, .int 0])), (o_26, .inl (o_28, 4, .inl (fun _ => 0))), (o_27, .inl (o_29, 4, .inl (fun _ => 0))), (o_10, .inr (8, [.ref o_30, .int 0, .ref o_31, .ref o_32, .ref o_33, .ref o_34, .null, .int 0])), (o_30, .inr (7, [.ref o_35, .int 0, .int 0]))] H := hP
  have hD : va_D A [(q_1, .inr (11, [.ref o_2, .ref o_3, .ref o_4, .ref o_5, .ref o_6, .ref o_7, .ref o_8, .ref o_9, .ref o_10, .int 0, .int 0, .int 0])), (o_2, .inl (o_11, 400, .inl (fun _ => 0))), (o_3, .inl (o_12, 4, .inl (fun _ => 0))), (o_6, .inl (o_13, 10, .inl (fun _ => 0))), (o_4, .inr (9, [.ref o_14, .ref o_15, .ref o_16, .int 0, .int 0, .int 0, .int 0, .int 0])), (o_14, .inl (o_17, 12, .inr (.inr (.inr (.inr (fun _ => none)))))), (o_16, .inr (3, [.ref o_18, .ref o_19, .ref o_20, .int 0, .int 0])), (o_20, .inl (o_21, 8, .inl (fun _ => 0))), (o_9, .inr (6, [.ref o_22, .int 0, .int 0, .int (-1), .null, .int 0, .int 0, .null])), (o_22, .inl (o_23, 10, .inr (.inr (.inr (.inr o_24))))), (o_25, .inr (2, [.ref o_26, .ref o_27, .int 0, .null, .int 0, .int 0])), (o_26, .inl (o_28, 4, .inl (fun _ => 0))), (o_27, .inl (o_29, 4, .inl (fun _ => 0))), (o_10, .inr (8, [.ref o_30, .int 0, .ref o_31, .ref o_32, .ref o_33, .ref o_34, .null, .int 0])), (o_30, .inr (7, [.ref o_35, .int 0, .int 0]))] := hD
  have hK : va_K (dC, dI) vwCl [(o_11, .byte), (o_12, .int), (o_13, .boolean), (o_17, .object RX10), (o_21, .int), (o_23, .object RX2), (o_28, .int), (o_29, .int)] s := hK
  refine W.widen (k := 95) (n := 20515) (Nat.le_of_ble_eq_true rfl) (Nat.le_of_ble_eq_true rfl) ?_
  have hg := w_37
  refine lv_astore_n (lv' := [(1, .ref q_1), (0, .ref b)]) hx hb dL_law_7 rfl hl (by decide) rfl (fun ls hl => ?_)
  refine va_new (ci := 12) (fs := [.int 0, .null, .int 0, .null, .null, .null, .null, .null, .null, .null, .int 0, .null, .null, .null, .null, .null, .null, .null, .null, .null, .int 0, .int 0, .int 0, .int 0, .null, .int 0, .null, .int 0, .null, .null, .null, .null, .null, .null, .null, .null, .null, .int 0, .int 0, .int 0, .int 0, .int 0, .int 0, .int 0, .null, .null, .null, .null, .null, .int 0, .null, .null, .null, .null, .null, .int 0, .int 0]) (C := RX12) (T := TX12) (N := 57) hx hb hts in12 tyX12 tyX12_ok hown (hts (.classLink RL 94 RX12) (by decide +kernel)) (hts (.instantiable RX12 57) (by decide +kernel)) (hts (.initialized RX12) (by decide +kernel)) hK hP hD hS hA rfl (fun j hj => by rcases (show j = 0 ∨ j = 1 ∨ j = 2 ∨ j = 3 ∨ j = 4 ∨ j = 5 ∨ j = 6 ∨ j = 7 ∨ j = 8 ∨ j = 9 ∨ j = 10 ∨ j = 11 ∨ j = 12 ∨ j = 13 ∨ j = 14 ∨ j = 15 ∨ j = 16 ∨ j = 17 ∨ j = 18 ∨ j = 19 ∨ j = 20 ∨ j = 21 ∨ j = 22 ∨ j = 23 ∨ j = 24 ∨ j = 25 ∨ j = 26 ∨ j = 27 ∨ j = 28 ∨ j = 29 ∨ j = 30 ∨ j = 31 ∨ j = 32 ∨ j = 33 ∨ j = 34 ∨ j = 35 ∨ j = 36 ∨ j = 37 ∨ j = 38 ∨ j = 39 ∨ j = 40 ∨ j = 41 ∨ j = 42 ∨ j = 43 ∨ j = 44 ∨ j = 45 ∨ j = 46 ∨ j = 47 ∨ j = 48 ∨ j = 49 ∨ j = 50 ∨ j = 51 ∨ j = 52 ∨ j = 53 ∨ j = 54 ∨ j = 55 ∨ j = 56 by omega) with rfl | rfl | rfl | rfl | rfl | rfl | rfl | rfl | rfl | rfl | rfl | rfl | rfl | rfl | rfl | rfl | rfl | rfl | rfl | rfl | rfl | rfl | rfl | rfl | rfl | rfl | rfl | rfl | rfl | rfl | rfl | rfl | rfl | rfl | rfl | rfl | rfl | rfl | rfl | rfl | rfl | rfl | rfl | rfl | rfl | rfl | rfl | rfl | rfl | rfl | rfl | rfl | rfl | rfl | rfl | rfl | rfl <;> rfl) (Nat.le_of_ble_eq_true rfl) (Nat.le_of_ble_eq_true rfl) dL_law_8 (fun q_38 H hP hD hS => ?_)
  have hP : va_P (dC, dI) vwCl [(q_1, .inr (11, [.ref o_2, .ref o_3, .ref o_4, .ref o_5, .ref o_6, .ref o_7, .ref o_8, .ref o_9, .ref o_10, .int 0, .int 0, .int 0])), (o_2, .inl (o_11, 400, .inl (fun _ => 0))), (o_3, .inl (o_12, 4, .inl (fun _ => 0))), (o_6, .inl (o_13, 10, .inl (fun _ => 0))), (o_4, .inr (9, [.ref o_14, .ref o_15, .ref o_16, .int 0, .int 0, .int 0, .int 0, .int 0])), (o_14, .inl (o_17, 12, .inr (.inr (.inr (.inr (fun _ => none)))))), (o_16, .inr (3, [.ref o_18, .ref o_19, .ref o_20, .int 0, .int 0])), (o_20, .inl (o_21, 8, .inl (fun _ => 0))), (o_9, .inr (6, [.ref o_22, .int 0, .int 0, .int (-1), .null, .int 0, .int 0, .null])), (o_22, .inl (o_23, 10, .inr (.inr (.inr (.inr o_24))))), (o_25, .inr (2, [.ref o_26, .ref o_27, .int 0, .null, .int 0, .int 0])), (o_26, .inl (o_28, 4, .inl (fun _ => 0))), (o_27, .inl (o_29, 4, .inl (fun _ => 0))), (o_10, .inr (8, [.ref o_30, .int 0, .ref o_31, .ref o_32, .ref o_33, .ref o_34, .null, .int 0])), (o_30, .inr (7, [.ref o_35, .int 0, .int 0])), (q_38, .inr (12, [.int 0, .null, .int 0, .null, .null, .null, .null, .null, .null, .null, .int 0, .null, .null, .null, .null, .null, .null, .null, .null, .null, .int 0, .int 0, .int 0, .int 0, .null, .int 0, .null, .int 0, .null, .null, .null, .null, .null, .null, .null, .null, .null, .int 0, .int 0, .int 0, .int 0, .int 0, .int 0, .int 0, .null, .null, .null, .null, .null, .int 0, .null, .null, .null, .null, .null, .int 0, .int 0]))] H := hP
  have hD : va_D A [(q_1, .inr (11, [.ref o_2, .ref o_3, .ref o_4, .ref o_5, .ref o_6, .ref o_7, .ref o_8, .ref o_9, .ref o_10, .int 0, .int 0, .int 0])), (o_2, .inl (o_11, 400, .inl (fun _ => 0))), (o_3, .inl (o_12, 4, .inl (fun _ => 0))), (o_6, .inl (o_13, 10, .inl (fun _ => 0))), (o_4, .inr (9, [.ref o_14, .ref o_15, .ref o_16, .int 0, .int 0, .int 0, .int 0, .int 0])), (o_14, .inl (o_17, 12, .inr (.inr (.inr (.inr (fun _ => none)))))), (o_16, .inr (3, [.ref o_18, .ref o_19, .ref o_20, .int 0, .int 0])), (o_20, .inl (o_21, 8, .inl (fun _ => 0))), (o_9, .inr (6, [.ref o_22, .int 0, .int 0, .int (-1), .null, .int 0, .int 0, .null])), (o_22, .inl (o_23, 10, .inr (.inr (.inr (.inr o_24))))), (o_25, .inr (2, [.ref o_26, .ref o_27, .int 0, .null, .int 0, .int 0])), (o_26, .inl (o_28, 4, .inl (fun _ => 0))), (o_27, .inl (o_29, 4, .inl (fun _ => 0))), (o_10, .inr (8, [.ref o_30, .int 0, .ref o_31, .ref o_32, .ref o_33, .ref o_34, .null, .int 0])), (o_30, .inr (7, [.ref o_35, .int 0, .int 0])), (q_38, .inr (12, [.int 0, .null, .int 0, .null, .null, .null, .null, .null, .null, .null, .int 0, .null, .null, .null, .null, .null, .null, .null, .null, .null, .int 0, .int 0, .int 0, .int 0, .null, .int 0, .null, .int 0, .null, .null, .null, .null, .null, .null, .null, .null, .null, .int 0, .int 0, .int 0, .int 0, .int 0, .int 0, .int 0, .null, .null, .null, .null, .null, .int 0, .null, .null, .null, .null, .null, .int 0, .int 0]))] := hD
  refine W.widen (k := 96) (n := 20572) (Nat.le_of_ble_eq_true rfl) (Nat.le_of_ble_eq_true rfl) ?_
  refine lv_dup hx hb dL_law_11 rfl ?_
  refine ct_v (wr := [(q_1, .inr (11, [.ref o_2, .ref o_3, .ref o_4, .ref o_5, .ref o_6, .ref o_7, .ref o_8, .ref o_9, .ref o_10, .int 0, .int 0, .int 0])), (o_2, .inl (o_11, 400, .inl (fun _ => 0))), (o_3, .inl (o_12, 4, .inl (fun _ => 0))), (o_6, .inl (o_13, 10, .inl (fun _ => 0))), (o_4, .inr (9, [.ref o_14, .ref o_15, .ref o_16, .int 0, .int 0, .int 0, .int 0, .int 0])), (o_14, .inl (o_17, 12, .inr (.inr (.inr (.inr (fun _ => none)))))), (o_16, .inr (3, [.ref o_18, .ref o_19, .ref o_20, .int 0, .int 0])), (o_20, .inl (o_21, 8, .inl (fun _ => 0))), (o_9, .inr (6, [.ref o_22, .int 0, .int 0, .int (-1), .null, .int 0, .int 0, .null])), (o_22, .inl (o_23, 10, .inr (.inr (.inr (.inr o_24))))), (o_25, .inr (2, [.ref o_26, .ref o_27, .int 0, .null, .int 0, .int 0])), (o_26, .inl (o_28, 4, .inl (fun _ => 0))), (o_27, .inl (o_29, 4, .inl (fun _ => 0))), (o_10, .inr (8, [.ref o_30, .int 0, .ref o_31, .ref o_32, .ref o_33, .ref o_34, .null, .int 0])), (o_30, .inr (7, [.ref o_35, .int 0, .int 0]))]) (tyr := [(o_11, .byte), (o_12, .int), (o_13, .boolean), (o_17, .object RX10), (o_21, .int), (o_23, .object RX2), (o_28, .int), (o_29, .int)]) (va_runI (As := []) (rest := [.ref q_38]) ⟨hx, hb, hml, hown, hts⟩ (n_model l hl0 dC dI q_38 H.size ) (cwI 0 hts gL_law_X12_init rfl rfl rfl (hts (.initialized RX12) (by decide +kernel)) (hts (.methodLink RL 96 yX12_init) (by decide +kernel)) (hts (.instanceMethod yX12_init) (by decide +kernel)) rfl (by decide +kernel) ⟨Nat.le_of_ble_eq_true rfl, Nat.le_of_ble_eq_true rfl⟩) (ct_pre hP hD hK hS hA hZ [15] [] rfl (by decide) rfl) rfl rfl hl.1 rfl (lv_room (Nat.le_of_ble_eq_true rfl)) dL_law_12 ⟨Nat.le_of_ble_eq_true rfl, Nat.le_of_ble_eq_true rfl⟩) hP hD hK hS hA [15] [0, 1, 2, 3, 4, 5, 6, 7, 8, 9, 10, 11, 12, 13, 14] [0, 1, 2, 3, 4, 5, 6, 7] rfl rfl (by decide) (by decide) rfl (fun u H locs w_90 hP hD hK hS => ?_)
  obtain ⟨o_39, o_40, o_41, o_42, o_43, o_44, o_45, o_46, o_47, o_48, o_49, o_50, o_51, o_52, o_53, o_54, o_55, o_56, o_57, o_58, o_59, o_60, o_61, o_62, o_63, o_64, o_65, o_66, o_67, o_68, o_69, o_70, o_71, o_72, o_73, o_74, o_75, o_76, o_77, o_78, o_79, o_80, o_81, o_82, o_83, o_84, o_85, o_86, o_87, o_88⟩ := u
  try dsimp only at w_90
  have hP : va_P (dC, dI) vwCl [(q_1, .inr (11, [.ref o_2, .ref o_3, .ref o_4, .ref o_5, .ref o_6, .ref o_7, .ref o_8, .ref o_9, .ref o_10, .int 0, .int 0, .int 0])), (o_2, .inl (o_11, 400, .inl (fun _ => 0))), (o_3, .inl (o_12, 4, .inl (fun _ => 0))), (o_6, .inl (o_13, 10, .inl (fun _ => 0))), (o_4, .inr (9, [.ref o_14, .ref o_15, .ref o_16, .int 0, .int 0, .int 0, .int 0, .int 0])), (o_14, .inl (o_17, 12, .inr (.inr (.inr (.inr (fun _ => none)))))), (o_16, .inr (3, [.ref o_18, .ref o_19, .ref o_20, .int 0, .int 0])), (o_20, .inl (o_21, 8, .inl (fun _ => 0))), (o_9, .inr (6, [.ref o_22, .int 0, .int 0, .int (-1), .null, .int 0, .int 0, .null])), (o_22, .inl (o_23, 10, .inr (.inr (.inr (.inr o_24))))), (o_25, .inr (2, [.ref o_26, .ref o_27, .int 0, .null, .int 0, .int 0])), (o_26, .inl (o_28, 4, .inl (fun _ => 0))), (o_27, .inl (o_29, 4, .inl (fun _ => 0))), (o_10, .inr (8, [.ref o_30, .int 0, .ref o_31, .ref o_32, .ref o_33, .ref o_34, .null, .int 0])), (o_30, .inr (7, [.ref o_35, .int 0, .int 0])), (q_38, .inr (12, [.int 0, .ref o_39, .int 0, .ref o_40, .ref o_41, .ref o_42, .ref o_43, .ref o_44, .ref o_45, .ref o_46, .int 0, .ref o_47, .ref o_48, .ref o_49, .ref o_50, .ref o_51, .ref o_52, .ref o_53, .ref o_54, .ref o_55, .int 0, .int 0, .int 0, .int 0, .ref o_56, .int 0, .ref o_57, .int 0, .ref o_58, .ref o_59, .ref o_60, .ref o_61, .ref o_62, .ref o_63, .ref o_64, .ref o_65, .ref o_66, .int 0, .int 0, .int 0, .int 0, .int 0, .int (-1), .int 0, .ref o_67, .ref o_68, .ref o_69, .ref o_70, .ref o_71, .int 0, .ref o_72, .ref o_73, .ref o_74, .ref o_75, .ref o_76, .int 0, .int 0])), (o_39, .inl (o_77, 400, .inl (fun _ => 0))), (o_40, .inl (o_78, 4, .inl (fun _ => 0))), (o_41, .inl (o_79, 12, .inl (fun _ => 0))), (o_42, .inl (o_80, 12, .inl (fun _ => 0))), (o_43, .inl (o_81, 12, .inl (fun _ => 0))), (o_44, .inl (o_82, 12, .inl (fun _ => 0))), (o_45, .inl (o_83, 12, .inl (fun _ => 0))), (o_47, .inl (o_84, 3000, .inl (fun _ => 0))), (o_57, .inl (o_85, 8, .inl (fun _ => 0))), (o_58, .inl (o_86, 10, .inl (fun _ => 0))), (o_67, .inl (o_87, 11, .inl (fun _ => 0))), (o_71, .inl (o_88, 12, .inl (fun _ => 0)))] H := hP
  have hD : va_D A [(q_1, .inr (11, [.ref o_2, .ref o_3, .ref o_4, .ref o_5, .ref o_6, .ref o_7, .ref o_8, .ref o_9, .ref o_10, .int 0, .int 0, .int 0])), (o_2, .inl (o_11, 400, .inl (fun _ => 0))), (o_3, .inl (o_12, 4, .inl (fun _ => 0))), (o_6, .inl (o_13, 10, .inl (fun _ => 0))), (o_4, .inr (9, [.ref o_14, .ref o_15, .ref o_16, .int 0, .int 0, .int 0, .int 0, .int 0])), (o_14, .inl (o_17, 12, .inr (.inr (.inr (.inr (fun _ => none)))))), (o_16, .inr (3, [.ref o_18, .ref o_19, .ref o_20, .int 0, .int 0])), (o_20, .inl (o_21, 8, .inl (fun _ => 0))), (o_9, .inr (6, [.ref o_22, .int 0, .int 0, .int (-1), .null, .int 0, .int 0, .null])), (o_22, .inl (o_23, 10, .inr (.inr (.inr (.inr o_24))))), (o_25, .inr (2, [.ref o_26, .ref o_27, .int 0, .null, .int 0, .int 0])), (o_26, .inl (o_28, 4, .inl (fun _ => 0))), (o_27, .inl (o_29, 4, .inl (fun _ => 0))), (o_10, .inr (8, [.ref o_30, .int 0, .ref o_31, .ref o_32, .ref o_33, .ref o_34, .null, .int 0])), (o_30, .inr (7, [.ref o_35, .int 0, .int 0])), (q_38, .inr (12, [.int 0, .ref o_39, .int 0, .ref o_40, .ref o_41, .ref o_42, .ref o_43, .ref o_44, .ref o_45, .ref o_46, .int 0, .ref o_47, .ref o_48, .ref o_49, .ref o_50, .ref o_51, .ref o_52, .ref o_53, .ref o_54, .ref o_55, .int 0, .int 0, .int 0, .int 0, .ref o_56, .int 0, .ref o_57, .int 0, .ref o_58, .ref o_59, .ref o_60, .ref o_61, .ref o_62, .ref o_63, .ref o_64, .ref o_65, .ref o_66, .int 0, .int 0, .int 0, .int 0, .int 0, .int (-1), .int 0, .ref o_67, .ref o_68, .ref o_69, .ref o_70, .ref o_71, .int 0, .ref o_72, .ref o_73, .ref o_74, .ref o_75, .ref o_76, .int 0, .int 0])), (o_39, .inl (o_77, 400, .inl (fun _ => 0))), (o_40, .inl (o_78, 4, .inl (fun _ => 0))), (o_41, .inl (o_79, 12, .inl (fun _ => 0))), (o_42, .inl (o_80, 12, .inl (fun _ => 0))), (o_43, .inl (o_81, 12, .inl (fun _ => 0))), (o_44, .inl (o_82, 12, .inl (fun _ => 0))), (o_45, .inl (o_83, 12, .inl (fun _ => 0))), (o_47, .inl (o_84, 3000, .inl (fun _ => 0))), (o_57, .inl (o_85, 8, .inl (fun _ => 0))), (o_58, .inl (o_86, 10, .inl (fun _ => 0))), (o_67, .inl (o_87, 11, .inl (fun _ => 0))), (o_71, .inl (o_88, 12, .inl (fun _ => 0)))] := hD
  have hK : va_K (dC, dI) vwCl [(o_11, .byte), (o_12, .int), (o_13, .boolean), (o_17, .object RX10), (o_21, .int), (o_23, .object RX2), (o_28, .int), (o_29, .int), (o_77, .byte), (o_78, .int), (o_79, .int), (o_80, .int), (o_81, .int), (o_82, .int), (o_83, .int), (o_84, .boolean), (o_85, .int), (o_86, .boolean), (o_87, .int), (o_88, .int)] s := hK
  refine W.widen (k := 134) (n := 76958) (Nat.le_of_ble_eq_true rfl) (Nat.le_of_ble_eq_true rfl) ?_
  refine lv_astore_n (lv' := [(2, .ref q_38), (1, .ref q_1), (0, .ref b)]) hx hb dL_law_15 rfl hl (by decide) rfl (fun ls hl => ?_)
  refine lv_iconst (v := 1) hx hb dL_law_16 (by decide) ?_
  refine va_newa (atype := .long) (ty := .long) (a0 := (1, .inr (.inl (fun _ => 0)))) (N' := 1) hx hb (hts (.arrayClass .long) (by decide +kernel)) rfl hK hP hD hS hA (fun cA => rfl) (by decide) (by decide) (Nat.le_of_ble_eq_true rfl) (Nat.le_of_ble_eq_true rfl) (Nat.le_of_ble_eq_true rfl) dL_law_17 (fun q_91 k_92 H hK hP hD hS => ?_)
  have hP : va_P (dC, dI) vwCl [(q_1, .inr (11, [.ref o_2, .ref o_3, .ref o_4, .ref o_5, .ref o_6, .ref o_7, .ref o_8, .ref o_9, .ref o_10, .int 0, .int 0, .int 0])), (o_2, .inl (o_11, 400, .inl (fun _ => 0))), (o_3, .inl (o_12, 4, .inl (fun _ => 0))), (o_6, .inl (o_13, 10, .inl (fun _ => 0))), (o_4, .inr (9, [.ref o_14, .ref o_15, .ref o_16, .int 0, .int 0, .int 0, .int 0, .int 0])), (o_14, .inl (o_17, 12, .inr (.inr (.inr (.inr (fun _ => none)))))), (o_16, .inr (3, [.ref o_18, .ref o_19, .ref o_20, .int 0, .int 0])), (o_20, .inl (o_21, 8, .inl (fun _ => 0))), (o_9, .inr (6, [.ref o_22, .int 0, .int 0, .int (-1), .null, .int 0, .int 0, .null])), (o_22, .inl (o_23, 10, .inr (.inr (.inr (.inr o_24))))), (o_25, .inr (2, [.ref o_26, .ref o_27, .int 0, .null, .int 0, .int 0])), (o_26, .inl (o_28, 4, .inl (fun _ => 0))), (o_27, .inl (o_29, 4, .inl (fun _ => 0))), (o_10, .inr (8, [.ref o_30, .int 0, .ref o_31, .ref o_32, .ref o_33, .ref o_34, .null, .int 0])), (o_30, .inr (7, [.ref o_35, .int 0, .int 0])), (q_38, .inr (12, [.int 0, .ref o_39, .int 0, .ref o_40, .ref o_41, .ref o_42, .ref o_43, .ref o_44, .ref o_45, .ref o_46, .int 0, .ref o_47, .ref o_48, .ref o_49, .ref o_50, .ref o_51, .ref o_52, .ref o_53, .ref o_54, .ref o_55, .int 0, .int 0, .int 0, .int 0, .ref o_56, .int 0, .ref o_57, .int 0, .ref o_58, .ref o_59, .ref o_60, .ref o_61, .ref o_62, .ref o_63, .ref o_64, .ref o_65, .ref o_66, .int 0, .int 0, .int 0, .int 0, .int 0, .int (-1), .int 0, .ref o_67, .ref o_68, .ref o_69, .ref o_70, .ref o_71, .int 0, .ref o_72, .ref o_73, .ref o_74, .ref o_75, .ref o_76, .int 0, .int 0])), (o_39, .inl (o_77, 400, .inl (fun _ => 0))), (o_40, .inl (o_78, 4, .inl (fun _ => 0))), (o_41, .inl (o_79, 12, .inl (fun _ => 0))), (o_42, .inl (o_80, 12, .inl (fun _ => 0))), (o_43, .inl (o_81, 12, .inl (fun _ => 0))), (o_44, .inl (o_82, 12, .inl (fun _ => 0))), (o_45, .inl (o_83, 12, .inl (fun _ => 0))), (o_47, .inl (o_84, 3000, .inl (fun _ => 0))), (o_57, .inl (o_85, 8, .inl (fun _ => 0))), (o_58, .inl (o_86, 10, .inl (fun _ => 0))), (o_67, .inl (o_87, 11, .inl (fun _ => 0))), (o_71, .inl (o_88, 12, .inl (fun _ => 0))), (q_91, .inl (k_92, 1, .inr (.inl (fun _ => 0))))] H := hP
  have hD : va_D A [(q_1, .inr (11, [.ref o_2, .ref o_3, .ref o_4, .ref o_5, .ref o_6, .ref o_7, .ref o_8, .ref o_9, .ref o_10, .int 0, .int 0, .int 0])), (o_2, .inl (o_11, 400, .inl (fun _ => 0))), (o_3, .inl (o_12, 4, .inl (fun _ => 0))), (o_6, .inl (o_13, 10, .inl (fun _ => 0))), (o_4, .inr (9, [.ref o_14, .ref o_15, .ref o_16, .int 0, .int 0, .int 0, .int 0, .int 0])), (o_14, .inl (o_17, 12, .inr (.inr (.inr (.inr (fun _ => none)))))), (o_16, .inr (3, [.ref o_18, .ref o_19, .ref o_20, .int 0, .int 0])), (o_20, .inl (o_21, 8, .inl (fun _ => 0))), (o_9, .inr (6, [.ref o_22, .int 0, .int 0, .int (-1), .null, .int 0, .int 0, .null])), (o_22, .inl (o_23, 10, .inr (.inr (.inr (.inr o_24))))), (o_25, .inr (2, [.ref o_26, .ref o_27, .int 0, .null, .int 0, .int 0])), (o_26, .inl (o_28, 4, .inl (fun _ => 0))), (o_27, .inl (o_29, 4, .inl (fun _ => 0))), (o_10, .inr (8, [.ref o_30, .int 0, .ref o_31, .ref o_32, .ref o_33, .ref o_34, .null, .int 0])), (o_30, .inr (7, [.ref o_35, .int 0, .int 0])), (q_38, .inr (12, [.int 0, .ref o_39, .int 0, .ref o_40, .ref o_41, .ref o_42, .ref o_43, .ref o_44, .ref o_45, .ref o_46, .int 0, .ref o_47, .ref o_48, .ref o_49, .ref o_50, .ref o_51, .ref o_52, .ref o_53, .ref o_54, .ref o_55, .int 0, .int 0, .int 0, .int 0, .ref o_56, .int 0, .ref o_57, .int 0, .ref o_58, .ref o_59, .ref o_60, .ref o_61, .ref o_62, .ref o_63, .ref o_64, .ref o_65, .ref o_66, .int 0, .int 0, .int 0, .int 0, .int 0, .int (-1), .int 0, .ref o_67, .ref o_68, .ref o_69, .ref o_70, .ref o_71, .int 0, .ref o_72, .ref o_73, .ref o_74, .ref o_75, .ref o_76, .int 0, .int 0])), (o_39, .inl (o_77, 400, .inl (fun _ => 0))), (o_40, .inl (o_78, 4, .inl (fun _ => 0))), (o_41, .inl (o_79, 12, .inl (fun _ => 0))), (o_42, .inl (o_80, 12, .inl (fun _ => 0))), (o_43, .inl (o_81, 12, .inl (fun _ => 0))), (o_44, .inl (o_82, 12, .inl (fun _ => 0))), (o_45, .inl (o_83, 12, .inl (fun _ => 0))), (o_47, .inl (o_84, 3000, .inl (fun _ => 0))), (o_57, .inl (o_85, 8, .inl (fun _ => 0))), (o_58, .inl (o_86, 10, .inl (fun _ => 0))), (o_67, .inl (o_87, 11, .inl (fun _ => 0))), (o_71, .inl (o_88, 12, .inl (fun _ => 0))), (q_91, .inl (k_92, 1, .inr (.inl (fun _ => 0))))] := hD
  have hK : va_K (dC, dI) vwCl [(o_11, .byte), (o_12, .int), (o_13, .boolean), (o_17, .object RX10), (o_21, .int), (o_23, .object RX2), (o_28, .int), (o_29, .int), (o_77, .byte), (o_78, .int), (o_79, .int), (o_80, .int), (o_81, .int), (o_82, .int), (o_83, .int), (o_84, .boolean), (o_85, .int), (o_86, .boolean), (o_87, .int), (o_88, .int), (k_92, .long)] s := hK
  refine W.widen (k := 135) (n := 76959) (Nat.le_of_ble_eq_true rfl) (Nat.le_of_ble_eq_true rfl) ?_
  refine lv_astore_n (lv' := [(3, .ref q_91), (2, .ref q_38), (1, .ref q_1), (0, .ref b)]) hx hb dL_law_19 rfl hl (by decide) rfl (fun ls hl => ?_)
  refine lv_iconst (v := 0) hx hb dL_law_20 (by decide) ?_
  refine lv_istore (lv' := [(4, .int 0), (3, .ref q_91), (2, .ref q_38), (1, .ref q_1), (0, .ref b)]) hx hb dL_law_21 hl (by decide) rfl (fun ls hl => ?_)
  rcases (show L = 0 ∨ L = 1 ∨ L = 2 ∨ L = 3 ∨ L = 4 ∨ L = 5 ∨ L = 6 by omega) with rfl | rfl | rfl | rfl | rfl | rfl | rfl
  · skip
    refine lv_iload hx hb dL_law_23 (lv_at hl 0 rfl) ?_
    refine lv_aload_n hx hb dL_law_25 rfl (lv_at hl 4 rfl) ?_
    refine va_slen hx hb hX hbl hbA hS dL_law_26 ?_
    refine lv_topi (fun z_93 ez_93 => ?_)
    obtain rfl : z_93 = 0 := ez_93.trans (by decide)
    refine lv_bipush (v := 6) hx hb dL_law_27 (by decide) ?_
    refine lv_isub hx hb dL_law_29 ?_
    refine lv_topi (fun z_94 ez_94 => ?_)
    obtain rfl : z_94 = (-6) := ez_94.trans (by decide)
    refine lv_icmp_gt (tgt := 1626) hx hb dL_law_30 (by decide) (fun _ => ?_) (fun c_95 => absurd c_95 (by decide))
    refine W.widen (k := 2000) (n := 300000) (Nat.le_of_ble_eq_true rfl) (Nat.le_of_ble_eq_true rfl) ?_
    exact law_out hx hb hr hlocks hAo hS
  · skip
    refine lv_iload hx hb dL_law_23 (lv_at hl 0 rfl) ?_
    refine lv_aload_n hx hb dL_law_25 rfl (lv_at hl 4 rfl) ?_
    refine va_slen hx hb hX hbl hbA hS dL_law_26 ?_
    refine lv_topi (fun z_96 ez_96 => ?_)
    obtain rfl : z_96 = 1 := ez_96.trans (by decide)
    refine lv_bipush (v := 6) hx hb dL_law_27 (by decide) ?_
    refine lv_isub hx hb dL_law_29 ?_
    refine lv_topi (fun z_97 ez_97 => ?_)
    obtain rfl : z_97 = (-5) := ez_97.trans (by decide)
    refine lv_icmp_gt (tgt := 1626) hx hb dL_law_30 (by decide) (fun _ => ?_) (fun c_98 => absurd c_98 (by decide))
    refine W.widen (k := 2000) (n := 300000) (Nat.le_of_ble_eq_true rfl) (Nat.le_of_ble_eq_true rfl) ?_
    exact law_out hx hb hr hlocks hAo hS
  · skip
    refine lv_iload hx hb dL_law_23 (lv_at hl 0 rfl) ?_
    refine lv_aload_n hx hb dL_law_25 rfl (lv_at hl 4 rfl) ?_
    refine va_slen hx hb hX hbl hbA hS dL_law_26 ?_
    refine lv_topi (fun z_99 ez_99 => ?_)
    obtain rfl : z_99 = 2 := ez_99.trans (by decide)
    refine lv_bipush (v := 6) hx hb dL_law_27 (by decide) ?_
    refine lv_isub hx hb dL_law_29 ?_
    refine lv_topi (fun z_100 ez_100 => ?_)
    obtain rfl : z_100 = (-4) := ez_100.trans (by decide)
    refine lv_icmp_gt (tgt := 1626) hx hb dL_law_30 (by decide) (fun _ => ?_) (fun c_101 => absurd c_101 (by decide))
    refine W.widen (k := 2000) (n := 300000) (Nat.le_of_ble_eq_true rfl) (Nat.le_of_ble_eq_true rfl) ?_
    exact law_out hx hb hr hlocks hAo hS
  · skip
    refine lv_iload hx hb dL_law_23 (lv_at hl 0 rfl) ?_
    refine lv_aload_n hx hb dL_law_25 rfl (lv_at hl 4 rfl) ?_
    refine va_slen hx hb hX hbl hbA hS dL_law_26 ?_
    refine lv_topi (fun z_102 ez_102 => ?_)
    obtain rfl : z_102 = 3 := ez_102.trans (by decide)
    refine lv_bipush (v := 6) hx hb dL_law_27 (by decide) ?_
    refine lv_isub hx hb dL_law_29 ?_
    refine lv_topi (fun z_103 ez_103 => ?_)
    obtain rfl : z_103 = (-3) := ez_103.trans (by decide)
    refine lv_icmp_gt (tgt := 1626) hx hb dL_law_30 (by decide) (fun _ => ?_) (fun c_104 => absurd c_104 (by decide))
    refine W.widen (k := 2000) (n := 300000) (Nat.le_of_ble_eq_true rfl) (Nat.le_of_ble_eq_true rfl) ?_
    exact law_out hx hb hr hlocks hAo hS
  · skip
    refine lv_iload hx hb dL_law_23 (lv_at hl 0 rfl) ?_
    refine lv_aload_n hx hb dL_law_25 rfl (lv_at hl 4 rfl) ?_
    refine va_slen hx hb hX hbl hbA hS dL_law_26 ?_
    refine lv_topi (fun z_105 ez_105 => ?_)
    obtain rfl : z_105 = 4 := ez_105.trans (by decide)
    refine lv_bipush (v := 6) hx hb dL_law_27 (by decide) ?_
    refine lv_isub hx hb dL_law_29 ?_
    refine lv_topi (fun z_106 ez_106 => ?_)
    obtain rfl : z_106 = (-2) := ez_106.trans (by decide)
    refine lv_icmp_gt (tgt := 1626) hx hb dL_law_30 (by decide) (fun _ => ?_) (fun c_107 => absurd c_107 (by decide))
    refine W.widen (k := 2000) (n := 300000) (Nat.le_of_ble_eq_true rfl) (Nat.le_of_ble_eq_true rfl) ?_
    exact law_out hx hb hr hlocks hAo hS
  · skip
    refine lv_iload hx hb dL_law_23 (lv_at hl 0 rfl) ?_
    refine lv_aload_n hx hb dL_law_25 rfl (lv_at hl 4 rfl) ?_
    refine va_slen hx hb hX hbl hbA hS dL_law_26 ?_
    refine lv_topi (fun z_108 ez_108 => ?_)
    obtain rfl : z_108 = 5 := ez_108.trans (by decide)
    refine lv_bipush (v := 6) hx hb dL_law_27 (by decide) ?_
    refine lv_isub hx hb dL_law_29 ?_
    refine lv_topi (fun z_109 ez_109 => ?_)
    obtain rfl : z_109 = (-1) := ez_109.trans (by decide)
    refine lv_icmp_gt (tgt := 1626) hx hb dL_law_30 (by decide) (fun _ => ?_) (fun c_110 => absurd c_110 (by decide))
    refine W.widen (k := 2000) (n := 300000) (Nat.le_of_ble_eq_true rfl) (Nat.le_of_ble_eq_true rfl) ?_
    exact law_out hx hb hr hlocks hAo hS
  · skip
    refine lv_iload hx hb dL_law_23 (lv_at hl 0 rfl) ?_
    refine lv_aload_n hx hb dL_law_25 rfl (lv_at hl 4 rfl) ?_
    refine va_slen hx hb hX hbl hbA hS dL_law_26 ?_
    refine lv_topi (fun z_111 ez_111 => ?_)
    obtain rfl : z_111 = 6 := ez_111.trans (by decide)
    refine lv_bipush (v := 6) hx hb dL_law_27 (by decide) ?_
    refine lv_isub hx hb dL_law_29 ?_
    refine lv_topi (fun z_112 ez_112 => ?_)
    obtain rfl : z_112 = 0 := ez_112.trans (by decide)
    refine lv_icmp_gt (tgt := 1626) hx hb dL_law_30 (by decide) (fun c_113 => absurd c_113 (by decide)) (fun _ => ?_)
    refine lv_aload_n hx hb dL_law_33 rfl (lv_at hl 4 rfl) ?_
    refine lv_iload hx hb dL_law_34 (lv_at hl 0 rfl) ?_
    refine va_sld hx hb hX hbl hbA hS (by unfold vp_in; decide) dL_law_36 ?_
    refine lv_topi (fun z_114 ez_114 => ?_)
    obtain rfl : z_114 = xs 0 := ez_114.trans (congrArg xs (by decide))
    refine lv_bipush (v := 31) hx hb dL_law_37 (by decide) ?_
    refine lv_iand hx hb dL_law_39 ?_
    refine lv_topi (fun z_115 ez_115 => ?_)
    rcases sp_c22 z_115 with rfl | rfl | rfl | rfl | rfl | rfl | rfl | rfl | rfl | rfl | rfl | rfl | rfl | rfl | rfl | rfl | rfl | rfl | rfl | rfl | rfl | rfl | hsw
    · skip
      refine lv_tableIn (off := 104) (tgt := 144) hx hb dL_law_40 (by decide) (by decide) (by decide) (by decide) ?_
      refine W.widen (k := 1000) (n := 200000) (Nat.le_of_ble_eq_true rfl) (Nat.le_of_ble_eq_true rfl) ?_
      exact law_feed hl0 dC dI q_1 o_2 o_3 o_4 o_5 o_6 o_7 o_8 o_9 o_10 o_11 q_91 k_92 q_38 o_39 o_40 o_41 o_42 o_43 o_44 o_45 o_46 o_47 o_48 o_49 o_50 o_51 o_52 o_53 o_54 o_55 o_56 o_57 o_58 o_59 o_60 o_61 o_62 o_63 o_64 o_65 o_66 o_67 o_68 o_69 o_70 o_71 o_72 o_73 o_74 o_75 o_76 o_77 hx hb hml hown hts hX hbl hbA hA hZ (lv_sub hl [0, 1, 2, 3, 4] rfl) (hP.sub [0, 1, 28, 15, 16] rfl) (hD.sub [0, 1, 28, 15, 16] (by decide) rfl) (hK.sub [0, 20, 8] rfl) hS (fun H locs ls hS hl => law_fin hx hb hr hlocks hX hbl hbA hAo hS hl)
    · skip
      refine lv_tableIn (off := 208) (tgt := 248) hx hb dL_law_40 (by decide) (by decide) (by decide) (by decide) ?_
      refine W.widen (k := 1000) (n := 200000) (Nat.le_of_ble_eq_true rfl) (Nat.le_of_ble_eq_true rfl) ?_
      exact law_end hl0 dC dI q_1 o_2 o_3 o_4 o_5 o_6 o_7 o_8 o_9 o_10 q_91 k_92 q_38 o_39 o_40 o_41 o_42 o_43 o_44 o_45 o_46 o_47 o_48 o_49 o_50 o_51 o_52 o_53 o_54 o_55 o_56 o_57 o_58 o_59 o_60 o_61 o_62 o_63 o_64 o_65 o_66 o_67 o_68 o_69 o_70 o_71 o_72 o_73 o_74 o_75 o_76 hx hb hml hown hts hX hbl hbA hA hZ (lv_sub hl [0, 1, 2, 3, 4] rfl) (hP.sub [0, 28, 15] rfl) (hD.sub [0, 28, 15] (by decide) rfl) (hK.sub [20] rfl) hS (fun H locs ls hS hl => law_fin hx hb hr hlocks hX hbl hbA hAo hS hl)
    · skip
      refine lv_tableIn (off := 264) (tgt := 304) hx hb dL_law_40 (by decide) (by decide) (by decide) (by decide) ?_
      refine W.widen (k := 1000) (n := 200000) (Nat.le_of_ble_eq_true rfl) (Nat.le_of_ble_eq_true rfl) ?_
      exact law_value hl0 dC dI q_1 o_2 o_3 o_4 o_5 o_6 o_7 o_8 o_9 o_10 o_12 q_91 k_92 q_38 o_39 o_40 o_41 o_42 o_43 o_44 o_45 o_46 o_47 o_48 o_49 o_50 o_51 o_52 o_53 o_54 o_55 o_56 o_57 o_58 o_59 o_60 o_61 o_62 o_63 o_64 o_65 o_66 o_67 o_68 o_69 o_70 o_71 o_72 o_73 o_74 o_75 o_76 o_78 hx hb hml hown hts hX hbl hbA hA hZ (lv_sub hl [0, 1, 2, 3, 4] rfl) (hP.sub [0, 2, 28, 15, 17] rfl) (hD.sub [0, 2, 28, 15, 17] (by decide) rfl) (hK.sub [1, 20, 9] rfl) hS (fun H locs ls hS hl => law_fin hx hb hr hlocks hX hbl hbA hAo hS hl)
    · skip
      refine lv_tableIn (off := 332) (tgt := 372) hx hb dL_law_40 (by decide) (by decide) (by decide) (by decide) ?_
      refine W.widen (k := 1000) (n := 200000) (Nat.le_of_ble_eq_true rfl) (Nat.le_of_ble_eq_true rfl) ?_
      exact law_table hl0 dC dI q_1 o_2 o_3 o_4 o_5 o_6 o_7 o_8 o_9 o_10 o_14 o_15 o_16 o_17 q_91 k_92 q_38 o_39 o_40 o_41 o_42 o_43 o_44 o_45 o_46 o_47 o_48 o_49 o_50 o_51 o_52 o_53 o_54 o_55 o_56 o_57 o_58 o_59 o_60 o_61 o_62 o_63 o_64 o_65 o_66 o_67 o_68 o_69 o_70 o_71 o_72 o_73 o_74 o_75 o_76 o_79 o_80 o_81 o_82 o_83 hx hb hml hown hts hX hbl hbA hA hZ (lv_sub hl [0, 1, 2, 3, 4] rfl) (hP.sub [0, 4, 5, 28, 15, 18, 19, 20, 21, 22] rfl) (hD.sub [0, 4, 5, 28, 15, 18, 19, 20, 21, 22] (by decide) rfl) (hK.sub [3, 20, 10, 11, 12, 13, 14] rfl) hS (fun H locs ls hS hl => law_fin hx hb hr hlocks hX hbl hbA hAo hS hl)
    · skip
      refine lv_tableIn (off := 388) (tgt := 428) hx hb dL_law_40 (by decide) (by decide) (by decide) (by decide) ?_
      refine W.widen (k := 1000) (n := 200000) (Nat.le_of_ble_eq_true rfl) (Nat.le_of_ble_eq_true rfl) ?_
      exact law_index hl0 dC dI q_1 o_2 o_3 o_4 o_5 o_6 o_7 o_8 o_9 o_10 o_14 o_15 o_16 q_91 k_92 q_38 o_39 o_40 o_41 o_42 o_43 o_44 o_45 o_46 o_47 o_48 o_49 o_50 o_51 o_52 o_53 o_54 o_55 o_56 o_57 o_58 o_59 o_60 o_61 o_62 o_63 o_64 o_65 o_66 o_67 o_68 o_69 o_70 o_71 o_72 o_73 o_74 o_75 o_76 hx hb hml hown hts hX hbl hbA hA hZ (lv_sub hl [0, 1, 2, 3, 4] rfl) (hP.sub [0, 4, 28, 15] rfl) (hD.sub [0, 4, 28, 15] (by decide) rfl) (hK.sub [20] rfl) hS (fun H locs ls hS hl => law_fin hx hb hr hlocks hX hbl hbA hAo hS hl)
    · skip
      refine lv_tableIn (off := 456) (tgt := 496) hx hb dL_law_40 (by decide) (by decide) (by decide) (by decide) ?_
      refine W.widen (k := 1000) (n := 200000) (Nat.le_of_ble_eq_true rfl) (Nat.le_of_ble_eq_true rfl) ?_
      exact law_key hl0 dC dI q_1 o_2 o_3 o_4 o_5 o_6 o_7 o_8 o_9 o_10 o_14 o_15 o_16 q_91 k_92 q_38 o_39 o_40 o_41 o_42 o_43 o_44 o_45 o_46 o_47 o_48 o_49 o_50 o_51 o_52 o_53 o_54 o_55 o_56 o_57 o_58 o_59 o_60 o_61 o_62 o_63 o_64 o_65 o_66 o_67 o_68 o_69 o_70 o_71 o_72 o_73 o_74 o_75 o_76 hx hb hml hown hts hX hbl hbA hA hZ (lv_sub hl [0, 1, 2, 3, 4] rfl) (hP.sub [0, 4, 28, 15] rfl) (hD.sub [0, 4, 28, 15] (by decide) rfl) (hK.sub [20] rfl) hS (fun H locs ls hS hl => law_fin hx hb hr hlocks hX hbl hbA hAo hS hl)
    · skip
      refine lv_tableIn (off := 524) (tgt := 564) hx hb dL_law_40 (by decide) (by decide) (by decide) (by decide) ?_
      refine W.widen (k := 1000) (n := 200000) (Nat.le_of_ble_eq_true rfl) (Nat.le_of_ble_eq_true rfl) ?_
      exact law_add hl0 dC dI q_1 o_2 o_3 o_4 o_5 o_6 o_7 o_8 o_9 o_10 o_14 o_15 o_16 q_91 k_92 q_38 o_39 o_40 o_41 o_42 o_43 o_44 o_45 o_46 o_47 o_48 o_49 o_50 o_51 o_52 o_53 o_54 o_55 o_56 o_57 o_58 o_59 o_60 o_61 o_62 o_63 o_64 o_65 o_66 o_67 o_68 o_69 o_70 o_71 o_72 o_73 o_74 o_75 o_76 hx hb hml hown hts hX hbl hbA hA hZ (lv_sub hl [0, 1, 2, 3, 4] rfl) (hP.sub [0, 4, 28, 15] rfl) (hD.sub [0, 4, 28, 15] (by decide) rfl) (hK.sub [20] rfl) hS (fun H locs ls hS hl => law_fin hx hb hr hlocks hX hbl hbA hAo hS hl)
    · skip
      refine lv_tableIn (off := 592) (tgt := 632) hx hb dL_law_40 (by decide) (by decide) (by decide) (by decide) ?_
      refine W.widen (k := 1000) (n := 200000) (Nat.le_of_ble_eq_true rfl) (Nat.le_of_ble_eq_true rfl) ?_
      exact law_remove hl0 dC dI q_1 o_2 o_3 o_4 o_5 o_6 o_7 o_8 o_9 o_10 o_14 o_15 o_16 q_91 k_92 q_38 o_39 o_40 o_41 o_42 o_43 o_44 o_45 o_46 o_47 o_48 o_49 o_50 o_51 o_52 o_53 o_54 o_55 o_56 o_57 o_58 o_59 o_60 o_61 o_62 o_63 o_64 o_65 o_66 o_67 o_68 o_69 o_70 o_71 o_72 o_73 o_74 o_75 o_76 hx hb hml hown hts hX hbl hbA hA hZ (lv_sub hl [0, 1, 2, 3, 4] rfl) (hP.sub [0, 4, 28, 15] rfl) (hD.sub [0, 4, 28, 15] (by decide) rfl) (hK.sub [20] rfl) hS (fun H locs ls hS hl => law_fin hx hb hr hlocks hX hbl hbA hAo hS hl)
    · skip
      refine lv_tableIn (off := 672) (tgt := 712) hx hb dL_law_40 (by decide) (by decide) (by decide) (by decide) ?_
      refine W.widen (k := 1000) (n := 200000) (Nat.le_of_ble_eq_true rfl) (Nat.le_of_ble_eq_true rfl) ?_
      exact law_find hl0 dC dI q_1 o_2 o_3 o_4 o_5 o_6 o_7 o_8 o_9 o_10 o_14 o_15 o_16 q_91 k_92 q_38 o_39 o_40 o_41 o_42 o_43 o_44 o_45 o_46 o_47 o_48 o_49 o_50 o_51 o_52 o_53 o_54 o_55 o_56 o_57 o_58 o_59 o_60 o_61 o_62 o_63 o_64 o_65 o_66 o_67 o_68 o_69 o_70 o_71 o_72 o_73 o_74 o_75 o_76 hx hb hml hown hts hX hbl hbA hA hZ (lv_sub hl [0, 1, 2, 3, 4] rfl) (hP.sub [0, 4, 28, 15] rfl) (hD.sub [0, 4, 28, 15] (by decide) rfl) (hK.sub [20] rfl) hS (fun H locs ls hS hl => law_fin hx hb hr hlocks hX hbl hbA hAo hS hl)
    · skip
      refine lv_tableIn (off := 752) (tgt := 792) hx hb dL_law_40 (by decide) (by decide) (by decide) (by decide) ?_
      refine W.widen (k := 1000) (n := 200000) (Nat.le_of_ble_eq_true rfl) (Nat.le_of_ble_eq_true rfl) ?_
      exact law_many hl0 dC dI q_1 o_2 o_3 o_4 o_5 o_6 o_7 o_8 o_9 o_10 o_14 o_15 o_16 q_91 k_92 q_38 o_39 o_40 o_41 o_42 o_43 o_44 o_45 o_46 o_47 o_48 o_49 o_50 o_51 o_52 o_53 o_54 o_55 o_56 o_57 o_58 o_59 o_60 o_61 o_62 o_63 o_64 o_65 o_66 o_67 o_68 o_69 o_70 o_71 o_72 o_73 o_74 o_75 o_76 hx hb hml hown hts hX hbl hbA hA hZ (lv_sub hl [0, 1, 2, 3, 4] rfl) (hP.sub [0, 4, 28, 15] rfl) (hD.sub [0, 4, 28, 15] (by decide) rfl) (hK.sub [20] rfl) hS (fun H locs ls hS hl => law_fin hx hb hr hlocks hX hbl hbA hAo hS hl)
    · skip
      refine lv_tableIn (off := 832) (tgt := 872) hx hb dL_law_40 (by decide) (by decide) (by decide) (by decide) ?_
      refine W.widen (k := 1000) (n := 200000) (Nat.le_of_ble_eq_true rfl) (Nat.le_of_ble_eq_true rfl) ?_
      exact law_open hl0 dC dI q_1 o_2 o_3 o_4 o_5 o_6 o_7 o_8 o_9 o_10 o_14 o_15 o_16 q_91 k_92 q_38 o_39 o_40 o_41 o_42 o_43 o_44 o_45 o_46 o_47 o_48 o_49 o_50 o_51 o_52 o_53 o_54 o_55 o_56 o_57 o_58 o_59 o_60 o_61 o_62 o_63 o_64 o_65 o_66 o_67 o_68 o_69 o_70 o_71 o_72 o_73 o_74 o_75 o_76 o_86 hx hb hml hown hts hX hbl hbA hA hZ (lv_sub hl [0, 1, 2, 3, 4] rfl) (hP.sub [0, 4, 28, 15, 25] rfl) (hD.sub [0, 4, 28, 15, 25] (by decide) rfl) (hK.sub [20, 17] rfl) hS (fun H locs ls hS hl => law_fin hx hb hr hlocks hX hbl hbA hAo hS hl)
    · skip
      refine lv_tableIn (off := 912) (tgt := 952) hx hb dL_law_40 (by decide) (by decide) (by decide) (by decide) ?_
      refine W.widen (k := 1000) (n := 200000) (Nat.le_of_ble_eq_true rfl) (Nat.le_of_ble_eq_true rfl) ?_
      exact law_next hl0 dC dI q_1 o_2 o_3 o_4 o_5 o_6 o_7 o_8 o_9 o_10 o_13 q_91 k_92 q_38 o_39 o_40 o_41 o_42 o_43 o_44 o_45 o_46 o_47 o_48 o_49 o_50 o_51 o_52 o_53 o_54 o_55 o_56 o_57 o_58 o_59 o_60 o_61 o_62 o_63 o_64 o_65 o_66 o_67 o_68 o_69 o_70 o_71 o_72 o_73 o_74 o_75 o_76 o_86 hx hb hml hown hts hX hbl hbA hA hZ (lv_sub hl [0, 1, 2, 3, 4] rfl) (hP.sub [0, 3, 28, 15, 25] rfl) (hD.sub [0, 3, 28, 15, 25] (by decide) rfl) (hK.sub [2, 20, 17] rfl) hS (fun H locs ls hS hl => law_fin hx hb hr hlocks hX hbl hbA hAo hS hl)
    · skip
      refine lv_tableIn (off := 968) (tgt := 1008) hx hb dL_law_40 (by decide) (by decide) (by decide) (by decide) ?_
      refine W.widen (k := 1000) (n := 200000) (Nat.le_of_ble_eq_true rfl) (Nat.le_of_ble_eq_true rfl) ?_
      exact law_close hl0 dC dI q_1 o_2 o_3 o_4 o_5 o_6 o_7 o_8 o_9 o_10 o_13 q_91 k_92 q_38 o_39 o_40 o_41 o_42 o_43 o_44 o_45 o_46 o_47 o_48 o_49 o_50 o_51 o_52 o_53 o_54 o_55 o_56 o_57 o_58 o_59 o_60 o_61 o_62 o_63 o_64 o_65 o_66 o_67 o_68 o_69 o_70 o_71 o_72 o_73 o_74 o_75 o_76 o_86 hx hb hml hown hts hX hbl hbA hA hZ (lv_sub hl [0, 1, 2, 3, 4] rfl) (hP.sub [0, 3, 28, 15, 25] rfl) (hD.sub [0, 3, 28, 15, 25] (by decide) rfl) (hK.sub [2, 20, 17] rfl) hS (fun H locs ls hS hl => law_fin hx hb hr hlocks hX hbl hbA hAo hS hl)
    · skip
      refine lv_tableIn (off := 1024) (tgt := 1064) hx hb dL_law_40 (by decide) (by decide) (by decide) (by decide) ?_
      refine W.widen (k := 1000) (n := 200000) (Nat.le_of_ble_eq_true rfl) (Nat.le_of_ble_eq_true rfl) ?_
      exact law_fact hl0 dC dI q_1 o_2 o_3 o_4 o_5 o_6 o_7 o_8 o_9 o_10 o_14 o_15 o_16 q_91 k_92 q_38 o_39 o_40 o_41 o_42 o_43 o_44 o_45 o_46 o_47 o_48 o_49 o_50 o_51 o_52 o_53 o_54 o_55 o_56 o_57 o_58 o_59 o_60 o_61 o_62 o_63 o_64 o_65 o_66 o_67 o_68 o_69 o_70 o_71 o_72 o_73 o_74 o_75 o_76 o_84 hx hb hml hown hts hX hbl hbA hA hZ (lv_sub hl [0, 1, 2, 3, 4] rfl) (hP.sub [0, 4, 28, 15, 23] rfl) (hD.sub [0, 4, 28, 15, 23] (by decide) rfl) (hK.sub [20, 15] rfl) hS (fun H locs ls hS hl => law_fin hx hb hr hlocks hX hbl hbA hAo hS hl)
    · skip
      refine lv_tableIn (off := 1092) (tgt := 1132) hx hb dL_law_40 (by decide) (by decide) (by decide) (by decide) ?_
      refine W.widen (k := 1000) (n := 200000) (Nat.le_of_ble_eq_true rfl) (Nat.le_of_ble_eq_true rfl) ?_
      exact law_mark hl0 dC dI q_1 o_2 o_3 o_4 o_5 o_6 o_7 o_8 o_9 o_10 o_14 o_15 o_16 o_18 o_19 o_20 o_21 q_91 k_92 q_38 o_39 o_40 o_41 o_42 o_43 o_44 o_45 o_46 o_47 o_48 o_49 o_50 o_51 o_52 o_53 o_54 o_55 o_56 o_57 o_58 o_59 o_60 o_61 o_62 o_63 o_64 o_65 o_66 o_67 o_68 o_69 o_70 o_71 o_72 o_73 o_74 o_75 o_76 o_85 hx hb hml hown hts hX hbl hbA hA hZ (lv_sub hl [0, 1, 2, 3, 4] rfl) (hP.sub [0, 4, 6, 7, 28, 15, 24] rfl) (hD.sub [0, 4, 6, 7, 28, 15, 24] (by decide) rfl) (hK.sub [4, 20, 16] rfl) hS (fun H locs ls hS hl => law_fin hx hb hr hlocks hX hbl hbA hAo hS hl)
    · skip
      refine lv_tableIn (off := 1136) (tgt := 1176) hx hb dL_law_40 (by decide) (by decide) (by decide) (by decide) ?_
      refine W.widen (k := 1000) (n := 200000) (Nat.le_of_ble_eq_true rfl) (Nat.le_of_ble_eq_true rfl) ?_
      exact law_back hl0 dC dI q_1 o_2 o_3 o_4 o_5 o_6 o_7 o_8 o_9 o_10 o_14 o_15 o_16 o_18 o_19 o_20 q_91 k_92 q_38 o_39 o_40 o_41 o_42 o_43 o_44 o_45 o_46 o_47 o_48 o_49 o_50 o_51 o_52 o_53 o_54 o_55 o_56 o_57 o_58 o_59 o_60 o_61 o_62 o_63 o_64 o_65 o_66 o_67 o_68 o_69 o_70 o_71 o_72 o_73 o_74 o_75 o_76 hx hb hml hown hts hX hbl hbA hA hZ (lv_sub hl [0, 1, 2, 3, 4] rfl) (hP.sub [0, 4, 6, 28, 15] rfl) (hD.sub [0, 4, 6, 28, 15] (by decide) rfl) (hK.sub [20] rfl) hS (fun H locs ls hS hl => law_fin hx hb hr hlocks hX hbl hbA hAo hS hl)
    · skip
      refine lv_tableIn (off := 1208) (tgt := 1248) hx hb dL_law_40 (by decide) (by decide) (by decide) (by decide) ?_
      refine W.widen (k := 1000) (n := 200000) (Nat.le_of_ble_eq_true rfl) (Nat.le_of_ble_eq_true rfl) ?_
      exact law_purge hl0 dC dI q_1 o_2 o_3 o_4 o_5 o_6 o_7 o_8 o_9 o_10 o_13 o_14 o_15 o_16 o_18 o_19 o_20 q_91 k_92 q_38 o_39 o_40 o_41 o_42 o_43 o_44 o_45 o_46 o_47 o_48 o_49 o_50 o_51 o_52 o_53 o_54 o_55 o_56 o_57 o_58 o_59 o_60 o_61 o_62 o_63 o_64 o_65 o_66 o_67 o_68 o_69 o_70 o_71 o_72 o_73 o_74 o_75 o_76 o_84 o_86 hx hb hml hown hts hX hbl hbA hA hZ (lv_sub hl [0, 1, 2, 3, 4] rfl) (hP.sub [0, 3, 4, 6, 28, 15, 23, 25] rfl) (hD.sub [0, 3, 4, 6, 28, 15, 23, 25] (by decide) rfl) (hK.sub [2, 20, 15, 17] rfl) hS (fun H locs ls hS hl => law_fin hx hb hr hlocks hX hbl hbA hAo hS hl)
    · skip
      refine lv_tableIn (off := 1264) (tgt := 1304) hx hb dL_law_40 (by decide) (by decide) (by decide) (by decide) ?_
      refine W.widen (k := 1000) (n := 200000) (Nat.le_of_ble_eq_true rfl) (Nat.le_of_ble_eq_true rfl) ?_
      exact law_changes hl0 dC dI q_1 o_2 o_3 o_4 o_5 o_6 o_7 o_8 o_9 o_10 o_14 o_15 o_16 q_91 k_92 q_38 o_39 o_40 o_41 o_42 o_43 o_44 o_45 o_46 o_47 o_48 o_49 o_50 o_51 o_52 o_53 o_54 o_55 o_56 o_57 o_58 o_59 o_60 o_61 o_62 o_63 o_64 o_65 o_66 o_67 o_68 o_69 o_70 o_71 o_72 o_73 o_74 o_75 o_76 hx hb hml hown hts hX hbl hbA hA hZ (lv_sub hl [0, 1, 2, 3, 4] rfl) (hP.sub [0, 4, 28, 15] rfl) (hD.sub [0, 4, 28, 15] (by decide) rfl) (hK.sub [20] rfl) hS (fun H locs ls hS hl => law_fin hx hb hr hlocks hX hbl hbA hAo hS hl)
    · skip
      refine lv_tableIn (off := 1344) (tgt := 1384) hx hb dL_law_40 (by decide) (by decide) (by decide) (by decide) ?_
      refine W.widen (k := 1000) (n := 200000) (Nat.le_of_ble_eq_true rfl) (Nat.le_of_ble_eq_true rfl) ?_
      exact law_found hl0 dC dI q_1 o_2 o_3 o_4 o_5 o_6 o_7 o_8 o_9 o_10 q_91 k_92 q_38 o_39 o_40 o_41 o_42 o_43 o_44 o_45 o_46 o_47 o_48 o_49 o_50 o_51 o_52 o_53 o_54 o_55 o_56 o_57 o_58 o_59 o_60 o_61 o_62 o_63 o_64 o_65 o_66 o_67 o_68 o_69 o_70 o_71 o_72 o_73 o_74 o_75 o_76 hx hb hml hown hts hX hbl hbA hA hZ (lv_sub hl [0, 1, 2, 3, 4] rfl) (hP.sub [0, 28, 15] rfl) (hD.sub [0, 28, 15] (by decide) rfl) (hK.sub [20] rfl) hS (fun H locs ls hS hl => law_fin hx hb hr hlocks hX hbl hbA hAo hS hl)
    · skip
      refine lv_tableIn (off := 1400) (tgt := 1440) hx hb dL_law_40 (by decide) (by decide) (by decide) (by decide) ?_
      refine W.widen (k := 1000) (n := 200000) (Nat.le_of_ble_eq_true rfl) (Nat.le_of_ble_eq_true rfl) ?_
      exact law_question hl0 dC dI q_1 o_2 o_3 o_4 o_5 o_6 o_7 o_8 o_9 o_10 o_14 o_15 o_16 o_22 o_23 o_24 o_25 o_26 o_27 o_28 o_29 q_91 k_92 q_38 o_39 o_40 o_41 o_42 o_43 o_44 o_45 o_46 o_47 o_48 o_49 o_50 o_51 o_52 o_53 o_54 o_55 o_56 o_57 o_58 o_59 o_60 o_61 o_62 o_63 o_64 o_65 o_66 o_67 o_68 o_69 o_70 o_71 o_72 o_73 o_74 o_75 o_76 o_87 o_88 hg hx hb hml hown hts hX hbl hbA hA hZ (lv_sub hl [0, 1, 2, 3, 4] rfl) (hP.sub [0, 4, 8, 9, 10, 11, 12, 28, 15, 26, 27] rfl) (hD.sub [0, 4, 8, 9, 10, 11, 12, 28, 15, 26, 27] (by decide) rfl) (hK.sub [5, 6, 7, 20, 18, 19] rfl) hS (fun H locs ls hS hl => law_fin hx hb hr hlocks hX hbl hbA hAo hS hl)
    · skip
      refine lv_tableIn (off := 1456) (tgt := 1496) hx hb dL_law_40 (by decide) (by decide) (by decide) (by decide) ?_
      refine W.widen (k := 1000) (n := 200000) (Nat.le_of_ble_eq_true rfl) (Nat.le_of_ble_eq_true rfl) ?_
      exact law_solution hl0 dC dI q_1 o_2 o_3 o_4 o_5 o_6 o_7 o_8 o_9 o_10 o_30 o_31 o_32 o_33 o_34 o_35 q_91 k_92 q_38 o_39 o_40 o_41 o_42 o_43 o_44 o_45 o_46 o_47 o_48 o_49 o_50 o_51 o_52 o_53 o_54 o_55 o_56 o_57 o_58 o_59 o_60 o_61 o_62 o_63 o_64 o_65 o_66 o_67 o_68 o_69 o_70 o_71 o_72 o_73 o_74 o_75 o_76 hx hb hml hown hts hX hbl hbA hA hZ (lv_sub hl [0, 1, 2, 3, 4] rfl) (hP.sub [0, 13, 14, 28, 15] rfl) (hD.sub [0, 13, 14, 28, 15] (by decide) rfl) (hK.sub [20] rfl) hS (fun H locs ls hS hl => law_fin hx hb hr hlocks hX hbl hbA hAo hS hl)
    · skip
      refine lv_tableIn (off := 1524) (tgt := 1564) hx hb dL_law_40 (by decide) (by decide) (by decide) (by decide) ?_
      refine W.widen (k := 1000) (n := 200000) (Nat.le_of_ble_eq_true rfl) (Nat.le_of_ble_eq_true rfl) ?_
      exact law_count hl0 dC dI q_1 o_2 o_3 o_4 o_5 o_6 o_7 o_8 o_9 o_10 o_13 o_14 o_15 o_16 o_18 o_19 o_20 o_22 o_30 o_31 o_32 o_33 o_34 o_35 q_91 k_92 q_38 o_39 o_40 o_41 o_42 o_43 o_44 o_45 o_46 o_47 o_48 o_49 o_50 o_51 o_52 o_53 o_54 o_55 o_56 o_57 o_58 o_59 o_60 o_61 o_62 o_63 o_64 o_65 o_66 o_67 o_68 o_69 o_70 o_71 o_72 o_73 o_74 o_75 o_76 o_86 hx hb hml hown hts hX hbl hbA hA hZ (lv_sub hl [0, 1, 2, 3, 4] rfl) (hP.sub [0, 3, 4, 6, 8, 13, 14, 28, 15, 25] rfl) (hD.sub [0, 3, 4, 6, 8, 13, 14, 28, 15, 25] (by decide) rfl) (hK.sub [2, 20, 17] rfl) hS (fun H locs ls hS hl => law_fin hx hb hr hlocks hX hbl hbA hAo hS hl)
    · skip
      refine lv_tableOut (tgt := 1620) hx hb dL_law_40 hsw (by decide) ?_
      refine W.widen (k := 2000) (n := 300000) (Nat.le_of_ble_eq_true rfl) (Nat.le_of_ble_eq_true rfl) ?_
      exact law_fin hx hb hr hlocks hX hbl hbA hAo hS (lv_sub hl [0, 4] rfl)
