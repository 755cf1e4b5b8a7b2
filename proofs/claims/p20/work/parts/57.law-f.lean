theorem sp_app {D : va_G} {cl : List vw_C} {w1 w2 : va_W} {H : Heap} : va_P D cl (w1 ++ w2) H ↔ va_P D cl w1 H ∧ va_P D cl w2 H := by
  constructor
  · intro h
    refine ⟨fun k q hk => h k q ?_, fun k q hk => h (w1.length + k) q ?_⟩
    · rw [List.getElem?_append_left (List.getElem?_eq_some_iff.mp hk).1]; exact hk
    · rw [List.getElem?_append_right (by omega), show w1.length + k - w1.length = k by omega]; exact hk
  · rintro ⟨h1, h2⟩ k q hk
    by_cases hl : k < w1.length
    · rw [List.getElem?_append_left hl] at hk; exact h1 k q hk
    · rw [List.getElem?_append_right (by omega)] at hk; exact h2 _ q hk
theorem sd_app {A : Nat → Prop} {w1 w2 : va_W} : va_D A (w1 ++ w2) ↔ va_D A w1 ∧ va_D A w2 ∧ Dis w1 w2 := by
  have l1 : ∀ (k : Nat) (q : Nat × va_E), w1[k]? = some q → (w1 ++ w2)[k]? = some q ∧ k < w1.length := fun k q hk => by
    have := (List.getElem?_eq_some_iff.mp hk).1
    exact ⟨by rw [List.getElem?_append_left this]; exact hk, this⟩
  have l2 : ∀ (k : Nat) (q : Nat × va_E), w2[k]? = some q → (w1 ++ w2)[w1.length + k]? = some q := fun k q hk => by
    rw [List.getElem?_append_right (by omega), show w1.length + k - w1.length = k by omega]; exact hk
  constructor
  · intro h
    refine ⟨⟨fun i j p q hi hj e => h.1 i j p q (l1 i p hi).1 (l1 j q hj).1 e, fun k q hk => h.2 k q (l1 k q hk).1⟩, ⟨fun i j p q hi hj e => ?_, fun k q hk => h.2 _ q (l2 k q hk)⟩, fun k p k2 p2 hk hk2 e => ?_⟩
    · have := h.1 _ _ p q (l2 i p hi) (l2 j q hj) e
      omega
    · have := h.1 _ _ p p2 (l1 k p hk).1 (l2 k2 p2 hk2) e
      have := (l1 k p hk).2
      omega
  · rintro ⟨h1, h2, h3⟩
    have sp : ∀ (k : Nat) (q : Nat × va_E), (w1 ++ w2)[k]? = some q → (k < w1.length ∧ w1[k]? = some q) ∨ (w1.length ≤ k ∧ w2[k - w1.length]? = some q) := fun k q hk => by
      by_cases hl : k < w1.length
      · rw [List.getElem?_append_left hl] at hk; exact Or.inl ⟨hl, hk⟩
      · rw [List.getElem?_append_right (by omega)] at hk; exact Or.inr ⟨by omega, hk⟩
    refine ⟨fun i j p q hi hj e => ?_, fun k q hk => ?_⟩
    · rcases sp i p hi with ⟨a1, a2⟩ | ⟨a1, a2⟩
      · rcases sp j q hj with ⟨b1, b2⟩ | ⟨b1, b2⟩
        · exact h1.1 i j p q a2 b2 e
        · exact absurd e (h3 _ p _ q a2 b2)
      · rcases sp j q hj with ⟨b1, b2⟩ | ⟨b1, b2⟩
        · exact absurd e.symm (h3 _ q _ p b2 a2)
        · have := h2.1 _ _ p q a2 b2 e
          omega
    · rcases sp k q hk with ⟨a1, a2⟩ | ⟨a1, a2⟩
      · exact h1.2 _ q a2
      · exact h2.2 _ q a2
theorem Dis_app {w1 w2 w : va_W} : Dis (w1 ++ w2) w ↔ Dis w1 w ∧ Dis w2 w := by
  constructor
  · intro h
    refine ⟨fun k p k2 p2 hk hk2 => h k p k2 p2 ?_ hk2, fun k p k2 p2 hk hk2 => h (w1.length + k) p k2 p2 ?_ hk2⟩
    · rw [List.getElem?_append_left (List.getElem?_eq_some_iff.mp hk).1]; exact hk
    · rw [List.getElem?_append_right (by omega), show w1.length + k - w1.length = k by omega]; exact hk
  · rintro ⟨h1, h2⟩ k p k2 p2 hk hk2
    by_cases hl : k < w1.length
    · rw [List.getElem?_append_left hl] at hk; exact h1 k p k2 p2 hk hk2
    · rw [List.getElem?_append_right (by omega)] at hk; exact h2 _ p k2 p2 hk hk2
set_option maxHeartbeats 8000000 in
set_option maxRecDepth 100000 in
/-- from the entry, for every script of at most 3072 ints, the law comes to its end with true -/
theorem whole_start {p : Program} {e : Env} {s : State} {m : MethodId} {below : List Frame} {meth : Method} {c : Code} (l : Launch) (hl0 : l.stackTraces = false) {b L : Nat} {xs : Nat → Int32} (hL : L ≤ 3072) (C0 : lw_At p s m meth c b L xs) : W p l e room_1 s m #[Value.ref b] below meth c s.heap [] 0 0 (lw_Z below #[Value.ref b] s) (entryFrame m ([Value.ref b] : List Value).toArray 7) := by
  obtain ⟨hx, hb, hr, hml, hown, htl, hX, hbl, hlocks, hgv⟩ := C0
  have hts : ∀ w ∈ wsL_law, w.before #[Value.ref b] s = true := fun w h => htl w (wsL_law_in w h)
  obtain ⟨A, hAe⟩ : ∃ A : Nat → Prop, A = (fun q : Nat => s.heap.size ≤ q) := ⟨_, rfl⟩
  have hA : ∀ q : Nat, s.heap.size ≤ q → A q := fun q h => by rw [hAe]; exact h
  have hAo : ∀ q : Nat, A q → s.heap.size ≤ q := fun q h => by rw [hAe] at h; exact h
  have hbA : ¬ A b := fun q => absurd (hAo b q) (Nat.not_le.mpr hbl)
  have hZ : tx_St A s := law_St htl hgv (fun a h q => absurd (hAo a q) (Nat.not_le.mpr h))
  obtain ⟨c0, iS0, hKn0⟩ := u_known (C := RX0) (T := TX0) (N := 5) (n := 5) hts inlX0 (hts (.instantiable RX0 5) (by decide +kernel))
  obtain ⟨c1, iS1, hKn1⟩ := u_known (C := RX1) (T := TX1) (N := 7) (n := 7) hts inlX1 (hts (.instantiable RX1 7) (by decide +kernel))
  obtain ⟨c2, iS2, hKn2⟩ := u_known (C := RX2) (T := TX2) (N := 6) (n := 6) hts inlX2 (hts (.instantiable RX2 6) (by decide +kernel))
  obtain ⟨c3, iS3, hKn3⟩ := u_known (C := RX3) (T := TX3) (N := 5) (n := 5) hts inlX3 (hts (.instantiable RX3 5) (by decide +kernel))
  obtain ⟨c4, iS4, hKn4⟩ := u_known (C := RX4) (T := TX4) (N := 2) (n := 2) hts inlX4 (hts (.instantiable RX4 2) (by decide +kernel))
  obtain ⟨c5, iS5, hKn5⟩ := u_known (C := RX5) (T := TX5) (N := 8) (n := 8) hts inlX5 (hts (.instantiable RX5 8) (by decide +kernel))
  obtain ⟨c6, iS6, hKn6⟩ := u_known (C := RX6) (T := TX6) (N := 8) (n := 8) hts inlX6 (hts (.instantiable RX6 8) (by decide +kernel))
  obtain ⟨c7, iS7, hKn7⟩ := u_known (C := RX7) (T := TX7) (N := 3) (n := 3) hts inlX7 (hts (.instantiable RX7 3) (by decide +kernel))
  obtain ⟨c8, iS8, hKn8⟩ := u_known (C := RX8) (T := TX8) (N := 8) (n := 8) hts inlX8 (hts (.instantiable RX8 8) (by decide +kernel))
  obtain ⟨c9, iS9, hKn9⟩ := u_known (C := RX9) (T := TX9) (N := 8) (n := 8) hts inlX9 (hts (.instantiable RX9 8) (by decide +kernel))
  obtain ⟨c10, iS10, hKn10⟩ := u_known (C := RX10) (T := TX10) (N := 6) (n := 6) hts inlX10 (hts (.instantiable RX10 6) (by decide +kernel))
  obtain ⟨c11, iS11, hKn11⟩ := u_known (C := RX11) (T := TX11) (N := 12) (n := 12) hts inlX11 (hts (.instantiable RX11 12) (by decide +kernel))
  obtain ⟨c12, iS12, hKn12⟩ := u_known (C := RX12) (T := TX12) (N := 57) (n := 57) hts inlX12 (hts (.instantiable RX12 57) (by decide +kernel))
  obtain ⟨dC, dI, hKc⟩ : ∃ (dC : Nat → ClassId) (dI : Nat → Nat → Nat), ∀ (k : Nat) (q : vw_C), vwCl[k]? = some q → u_Kn s q.1 q.2.1 q.2.2 (dC k) (dI k) := by
    refine ⟨fun k => match k with | 0 => c0 | 1 => c1 | 2 => c2 | 3 => c3 | 4 => c4 | 5 => c5 | 6 => c6 | 7 => c7 | 8 => c8 | 9 => c9 | 10 => c10 | 11 => c11 | _ => c12, fun k => match k with | 0 => iS0 | 1 => iS1 | 2 => iS2 | 3 => iS3 | 4 => iS4 | 5 => iS5 | 6 => iS6 | 7 => iS7 | 8 => iS8 | 9 => iS9 | 10 => iS10 | 11 => iS11 | _ => iS12, ?_⟩
    intro k q hq
    match k, hq with
    | 0, hq => cases hq; exact hKn0
    | 1, hq => cases hq; exact hKn1
    | 2, hq => cases hq; exact hKn2
    | 3, hq => cases hq; exact hKn3
    | 4, hq => cases hq; exact hKn4
    | 5, hq => cases hq; exact hKn5
    | 6, hq => cases hq; exact hKn6
    | 7, hq => cases hq; exact hKn7
    | 8, hq => cases hq; exact hKn8
    | 9, hq => cases hq; exact hKn9
    | 10, hq => cases hq; exact hKn10
    | 11, hq => cases hq; exact hKn11
    | 12, hq => cases hq; exact hKn12
    | k + 13, hq => simp [vwCl] at hq
  obtain ⟨a20, hA20⟩ := law_int (htl (.arrayClass .int) (by decide +kernel))
  obtain ⟨a21, hA21⟩ := law_byte (htl (.arrayClass .byte) (by decide +kernel))
  obtain ⟨a22, hA22⟩ := law_bool (htl (.arrayClass .boolean) (by decide +kernel))
  obtain ⟨a23, hA23⟩ := law_long (htl (.arrayClass .long) (by decide +kernel))
  obtain ⟨a24, hA24⟩ := law_obj hZ.2.2.2.2.1.1
  obtain ⟨a25, hA25⟩ := law_obj hZ.2.2.2.2.1.2.1
  obtain ⟨a26, hA26⟩ := law_obj hZ.2.2.2.2.1.2.2.1
  obtain ⟨a27, hA27⟩ := law_obj hZ.2.2.2.2.1.2.2.2.1
  obtain ⟨a28, hA28⟩ := law_obj hZ.2.2.2.2.1.2.2.2.2.1
  obtain ⟨a29, hA29⟩ := law_obj hZ.2.2.2.2.1.2.2.2.2.2
  obtain ⟨cA, hK⟩ : ∃ cA : Nat → ClassId, va_K (dC, dI) vwCl (tyA cA) s := by
    refine ⟨fun k => match k with | 20 => a20 | 21 => a21 | 22 => a22 | 23 => a23 | 24 => a24 | 25 => a25 | 26 => a26 | 27 => a27 | 28 => a28 | _ => a29, hKc, ?_⟩
    intro k q hq
    match k, hq with
    | 0, hq => cases hq; exact hA20
    | 1, hq => cases hq; exact hA21
    | 2, hq => cases hq; exact hA22
    | 3, hq => cases hq; exact hA24
    | 4, hq => cases hq; exact hA25
    | 5, hq => cases hq; exact hA26
    | 6, hq => cases hq; exact hA27
    | 7, hq => cases hq; exact hA28
    | 8, hq => cases hq; exact hA29
    | 9, hq => cases hq; exact hA23
    | k + 10, hq => simp [tyA] at hq
  have hS : va_S A s.heap s.heap [] := va_S.rf
  have hP0 : va_P (dC, dI) vwCl [] s.heap := fun k q h => by simp at h
  have hD0 : va_D A [] := ⟨fun i j p q h => by simp at h, fun k q h => by simp at h⟩
  have hl := lv_entry ([.ref b]) (n := 7) (Nat.le_of_ble_eq_true rfl)
  rw [lg_entry_eq]
  generalize (lg_sl ([.ref b]) ++ List.replicate (7 - (lg_sl ([.ref b])).length) Slot.unset).toArray = ls at hl ⊢
  have hl : lv_has ls 7 [(0, .ref b)] := hl
  have hRc : room_1.cells = 601024 := rfl
  have hRs : room_1.slots = 7293034 := rfl
  refine va_new (ci := 11) (fs := [.null, .null, .null, .null, .null, .null, .null, .null, .null, .int 0, .int 0, .int 0]) (C := RX11) (T := TX11) (N := 12) hx hb hts inlX11 tyX11 tyX11_ok hown (hts (.classLink RL 8 RX11) (by decide +kernel)) (hts (.instantiable RX11 12) (by decide +kernel)) (hts (.initialized RX11) (by decide +kernel)) hK hP0 hD0 hS hA rfl (fun j hj => by rcases (show j = 0 ∨ j = 1 ∨ j = 2 ∨ j = 3 ∨ j = 4 ∨ j = 5 ∨ j = 6 ∨ j = 7 ∨ j = 8 ∨ j = 9 ∨ j = 10 ∨ j = 11 by omega) with rfl | rfl | rfl | rfl | rfl | rfl | rfl | rfl | rfl | rfl | rfl | rfl <;> rfl) (Nat.le_of_ble_eq_true rfl) (Nat.le_of_ble_eq_true rfl) dL_law_0 (fun q11 H hP hD hS => ?_)
  obtain ⟨x1, hx1⟩ : ∃ x1 : HS, x1 = HS.mk [q11] (fun _ => 11) (fun _ => 0) (fun _ _ => 0) (fun _ _ => none) (fun _ _ => 0) (fun _ _ => none) 300000 3000000 := ⟨_, rfl⟩
  have hP1 : va_P (dC, dI) vwCl (wd cA x1) H := by rw [hx1]; exact hP
  have hD1 : va_D A (wd cA x1) := by rw [hx1]; exact hD
  have hc1 : x1.c = 300000 := by rw [hx1]; rfl
  have hz1 : x1.z = 3000000 := by rw [hx1]; rfl
  have hk1 : w_X11_init (some q11) x1 (fun u => KZ q11 512 AS0 u) (fun _ _ => False) := kz_init (N := 512) (by rw [hx1]; rfl) (by rw [hx1]; rfl) (by rw [hx1]; exact fun j => rfl) (by rw [hc1]; decide) (by rw [hz1]; decide)
  refine lv_dup hx hb dL_law_3 rfl ?_
  refine l_runv (S := HS) (P := fun mc ms u => KZ q11 512 AS0 u ∧ mc + u.c = x1.c ∧ ms + u.z = x1.z) (w0 := wd cA x1) (wo := []) (w1 := wd cA) (tys := tyA cA) (fun mc ms E st t h => by obtain ⟨u, -, ⟨⟨h, -⟩, -⟩, -⟩ := h; exact h) (vy_runI (b := q11) (As := []) (rest := [.ref q11]) ⟨hx, hb, hml, hown, hts⟩ (T_X11_init (X := fun _ _ => False) l hl0 (dC, dI) cA hk1 H.size) (fun mc ms E st t h => by obtain ⟨u, -, ⟨⟨h, -⟩, -⟩, -⟩ := h; exact h) (cwI 0 hts gL_law_X11_init rfl rfl rfl (hts (.initialized RX11) (by decide +kernel)) (hts (.methodLink RL 93 yX11_init) (by decide +kernel)) (hts (.instanceMethod yX11_init) (by decide +kernel)) rfl (by decide +kernel) ⟨Nat.le_of_ble_eq_true rfl, Nat.le_of_ble_eq_true rfl⟩) (pt_pre hP1 hD1 hK hS hA hZ) rfl rfl hl.1 rfl (lv_room (Nat.le_of_ble_eq_true rfl)) dL_law_4 ⟨by show 0 + 1 + x1.c ≤ _; rw [hc1]; decide, by show 0 + 12 + x1.z ≤ _; rw [hz1]; decide⟩) hD1 (fun k q h => by simp at h) (fun k p k2 p2 h => by simp at h) hS hA (fun mc ms x H locs hq hPx hDx _ _ hS => ?_)
  obtain ⟨hkx, hcx, hzx⟩ := hq
  refine lv_astore_n (lv' := [(1, .ref q11), (0, .ref b)]) hx hb dL_law_7 rfl hl (by decide) rfl (fun ls hl => ?_)
  clear hP hD hP1 hD1 hP0 hD0
  refine va_new (ci := 12) (fs := [.int 0, .null, .int 0, .null, .null, .null, .null, .null, .null, .null, .int 0, .null, .null, .null, .null, .null, .null, .null, .null, .null, .int 0, .int 0, .int 0, .int 0, .null, .int 0, .null, .int 0, .null, .null, .null, .null, .null, .null, .null, .null, .null, .int 0, .int 0, .int 0, .int 0, .int 0, .int 0, .int 0, .null, .null, .null, .null, .null, .int 0, .null, .null, .null, .null, .null, .int 0, .int 0]) (C := RX12) (T := TX12) (N := 57) hx hb hts inlX12 tyX12 tyX12_ok hown (hts (.classLink RL 94 RX12) (by decide +kernel)) (hts (.instantiable RX12 57) (by decide +kernel)) (hts (.initialized RX12) (by decide +kernel)) hK hPx hDx hS hA rfl (fun j hj => by rcases (show j = 0 ∨ j = 1 ∨ j = 2 ∨ j = 3 ∨ j = 4 ∨ j = 5 ∨ j = 6 ∨ j = 7 ∨ j = 8 ∨ j = 9 ∨ j = 10 ∨ j = 11 ∨ j = 12 ∨ j = 13 ∨ j = 14 ∨ j = 15 ∨ j = 16 ∨ j = 17 ∨ j = 18 ∨ j = 19 ∨ j = 20 ∨ j = 21 ∨ j = 22 ∨ j = 23 ∨ j = 24 ∨ j = 25 ∨ j = 26 ∨ j = 27 ∨ j = 28 ∨ j = 29 ∨ j = 30 ∨ j = 31 ∨ j = 32 ∨ j = 33 ∨ j = 34 ∨ j = 35 ∨ j = 36 ∨ j = 37 ∨ j = 38 ∨ j = 39 ∨ j = 40 ∨ j = 41 ∨ j = 42 ∨ j = 43 ∨ j = 44 ∨ j = 45 ∨ j = 46 ∨ j = 47 ∨ j = 48 ∨ j = 49 ∨ j = 50 ∨ j = 51 ∨ j = 52 ∨ j = 53 ∨ j = 54 ∨ j = 55 ∨ j = 56 by omega) with rfl | rfl | rfl | rfl | rfl | rfl | rfl | rfl | rfl | rfl | rfl | rfl | rfl | rfl | rfl | rfl | rfl | rfl | rfl | rfl | rfl | rfl | rfl | rfl | rfl | rfl | rfl | rfl | rfl | rfl | rfl | rfl | rfl | rfl | rfl | rfl | rfl | rfl | rfl | rfl | rfl | rfl | rfl | rfl | rfl | rfl | rfl | rfl | rfl | rfl | rfl | rfl | rfl | rfl | rfl | rfl | rfl <;> rfl) (by show 0 + 1 + mc + 1 ≤ _; omega) (by show 0 + 12 + ms + 57 ≤ _; omega) dL_law_8 (fun q12 H hP hD hS => ?_)
  obtain ⟨y1, hy1⟩ : ∃ y1 : HS, y1 = HS.mk [q12] (fun _ => 12) (fun _ => 0) (fun _ _ => 0) (fun _ _ => none) (fun _ _ => 0) (fun _ _ => none) 38 56386 := ⟨_, rfl⟩
  obtain ⟨hPx, hPy0⟩ := sp_app.mp hP
  obtain ⟨hDx, hDy0, hdx⟩ := sd_app.mp hD
  have hPy : va_P (dC, dI) vwCl (wd cA y1) H := by rw [hy1]; exact hPy0
  have hDy : va_D A (wd cA y1) := by rw [hy1]; exact hDy0
  have hdxy : Dis (wd cA x) (wd cA y1) := by rw [hy1]; exact hdx
  have hc2 : y1.c = 38 := by rw [hy1]; rfl
  have hz2 : y1.z = 56386 := by rw [hy1]; rfl
  have hk2 : w_X12_init (some q12) y1 (fun u => RM q12 0 AS0 u) (fun _ _ => False) := rc_init (by rw [hy1]; exact List.mem_singleton.mpr rfl) (by rw [hy1]; rfl) (by rw [hy1]; rfl) (by rw [hc2]; decide) (by rw [hz2]; decide)
  refine lv_dup hx hb dL_law_11 rfl ?_
  refine l_runv (S := HS) (P := fun mc ms u => RM q12 0 AS0 u ∧ mc + u.c = y1.c ∧ ms + u.z = y1.z) (w0 := wd cA y1) (wo := wd cA x) (w1 := wd cA) (tys := tyA cA) (fun mc ms E st t h => by obtain ⟨u, -, ⟨⟨h, -⟩, -⟩, -⟩ := h; exact h) (vy_runI (b := q12) (As := []) (rest := [.ref q12]) ⟨hx, hb, hml, hown, hts⟩ (T_X12_init (X := fun _ _ => False) l hl0 (dC, dI) cA hk2 H.size) (fun mc ms E st t h => by obtain ⟨u, -, ⟨⟨h, -⟩, -⟩, -⟩ := h; exact h) (cwI 0 hts gL_law_X12_init rfl rfl rfl (hts (.initialized RX12) (by decide +kernel)) (hts (.methodLink RL 96 yX12_init) (by decide +kernel)) (hts (.instanceMethod yX12_init) (by decide +kernel)) rfl (by decide +kernel) ⟨Nat.le_of_ble_eq_true rfl, Nat.le_of_ble_eq_true rfl⟩) (pt_pre hPy hDy hK hS hA hZ) rfl rfl hl.1 rfl (lv_room (Nat.le_of_ble_eq_true rfl)) dL_law_12 ⟨by show 0 + 1 + mc + 1 + y1.c ≤ _; omega, by show 0 + 12 + ms + 57 + y1.z ≤ _; omega⟩) hDy hPx hdxy hS hA (fun mc2 ms2 y H locs hq hPy hDy hPx hdxy hS => ?_)
  obtain ⟨hRy, hcy, hzy⟩ := hq
  refine lv_astore_n (lv' := [(2, .ref q12), (1, .ref q11), (0, .ref b)]) hx hb dL_law_15 rfl hl (by decide) rfl (fun ls hl => ?_)
  refine lv_iconst (v := 1) hx hb dL_law_16 (by decide) ?_
  refine va_newa (atype := .long) (ty := .long) (a0 := (1, .inr (.inl (fun _ => 0)))) (N' := 1) hx hb (hts (.arrayClass .long) (by decide +kernel)) rfl hK (sp_app.mpr ⟨hPx, hPy⟩) (sd_app.mpr ⟨hDx, hDy, hdxy⟩) hS hA (fun cA => rfl) (by decide) (by decide) (Nat.le_of_ble_eq_true rfl) (by show 0 + 1 + mc + 1 + mc2 + 1 ≤ _; omega) (by show 0 + 12 + ms + 57 + ms2 + 1 ≤ _; omega) dL_law_17 (fun ao cL H hK1 hP hD hS => ?_)
  have he : (tyA cA ++ [(cL, FieldType.long)])[10]? = some (cL, .long) := rfl
  cases po_same (hK1.2 _ _ he).2 (hK.2 9 (cA 23, .long) rfl).2
  obtain ⟨hPxy, hPa⟩ := sp_app.mp hP
  obtain ⟨hDxy, hDa, hda⟩ := sd_app.mp hD
  obtain ⟨hPx, hPy⟩ := sp_app.mp hPxy
  obtain ⟨hDx, hDy, hdxy⟩ := sd_app.mp hDxy
  obtain ⟨hda1, hda2⟩ := Dis_app.mp hda
  refine lv_astore_n (lv' := [(3, .ref ao), (2, .ref q12), (1, .ref q11), (0, .ref b)]) hx hb dL_law_19 rfl hl (by decide) rfl (fun ls hl => ?_)
  refine lv_iconst (v := 0) hx hb dL_law_20 (by decide) ?_
  refine lv_istore (lv' := [(4, .int 0), (3, .ref ao), (2, .ref q12), (1, .ref q11), (0, .ref b)]) hx hb dL_law_21 hl (by decide) rfl (fun ls hl => ?_)
  refine law_loop hl0 (dC, dI) cA hx hb hml hown hts hX hbl hbA hA hZ hK hr hlocks hAo hL 512 H locs ls _ _ 512 0 AS0 (fun _ => 0) x y 0 (by decide) (by decide) ?_ (Nat.le_refl _) (by decide) hl hkx hRy ⟨sp_cons.mpr ⟨(sp_cons.mp hPa).1, hPx⟩, sd_cons.mpr ⟨(sd_cons.mp hDa).1, hDx, hda1.symm⟩, hPy, hDy, Dis_cons.mpr ⟨hda2.symm, hdxy⟩, hS, ?_, ?_⟩
  · have : (0 : Int32).toInt = 0 := by decide
    omega
  · show 0 + 1 + mc + 1 + mc2 + 1 + x.c + y.c ≤ _
    omega
  · show 0 + 12 + ms + 57 + ms2 + 1 + x.z + y.z ≤ _
    omega
