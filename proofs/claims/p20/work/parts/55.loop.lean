set_option maxHeartbeats 8000000 in
set_option maxRecDepth 100000 in
/-- the law's loop, n times more at the most -/
theorem law_loop {p : Program} {l : Launch} {e : Env} {s : State} {m : MethodId} {below : List Frame} {meth : Method} {c : Code} {b L : Nat} {xs : Nat → Int32} {A : Nat → Prop} {ao xo mo : Nat} (hl0 : l.stackTraces = false) (D : va_G) (cA : Nat → ClassId) (hx : p.tables.exec = Jvm.exec) (hb : c.code = cL_law) (hml : c.maxLocals = 7) (hown : s.vm.findClass RL = some m.cls) (hts : ∀ w ∈ wsL_law, w.before #[Value.ref b] s = true) (hX : va_X b L xs s s.heap) (hbl : b < s.heap.size) (hbA : ¬ A b) (hA : ∀ q : Nat, s.heap.size ≤ q → A q) (hZ : tx_St A s) (hK : va_K D vwCl (tyA cA) s) (hr : meth.sig.returnType = ret) (hlocks : meth.locks = false) (hAo : ∀ q : Nat, A q → s.heap.size ≤ q) (hL : L ≤ 3072) :
    ∀ (n : Nat) (H : Heap) (locs : List Loc) (ls : Array Slot) (cells slots N M : Nat) (a : AS) (f : Nat → Int64) (x y : HS) (i : Int32), 0 ≤ i.toInt → i.toInt ≤ 4000 → (L : Int) ≤ i.toInt + 6 * n → n ≤ N → M + n ≤ 600 → lv_has ls 7 [(4, .int i), (3, .ref ao), (2, .ref mo), (1, .ref xo), (0, .ref b)] → KZ xo N a x → RM mo M a y → LW D cA A s H locs cells slots ao f x y → W p l e room_1 s m #[Value.ref b] below meth c H locs cells slots (lw_Z below #[Value.ref b] s) (F0 m 23 ls []) := by
  intro n
  induction n with
  | zero =>
    intro H locs ls cells slots N M a f x y i h1 h2 h3 h4 h5 hl hk hR h
    refine lv_iload hx hb dL_law_23 (lv_at hl 0 rfl) ?_
    refine lv_aload_n hx hb dL_law_25 rfl (lv_at hl 4 rfl) ?_
    refine va_slen hx hb hX hbl hbA h.2.2.2.2.2.1 dL_law_26 ?_
    refine lv_bipush (v := 6) hx hb dL_law_27 (by decide) ?_
    refine lv_isub hx hb dL_law_29 ?_
    have e1 : (Int32.ofNat L).toInt = L := Int32.toInt_ofNat_of_lt (by omega)
    have e2 : (Int32.ofNat L - 6).toInt = L - 6 := i_sub e1 (by decide) (by omega)
    have g1 : cells + x.c + y.c ≤ 601024 := h.2.2.2.2.2.2.1
    have g2 : slots + x.z + y.z ≤ 7293034 := h.2.2.2.2.2.2.2
    refine lv_icmp_gt (tgt := 1038) hx hb dL_law_30 (by decide) (fun _ => law_out hx hb hr hlocks hAo h.2.2.2.2.2.1 (by omega) (by omega)) (fun z => absurd ?_ z)
    rw [Int32.lt_iff_toInt_lt, e2]
    omega
  | succ n ih =>
    intro H locs ls cells slots N M a f x y i h1 h2 h3 h4 h5 hl hk hR h
    refine lv_iload hx hb dL_law_23 (lv_at hl 0 rfl) ?_
    refine lv_aload_n hx hb dL_law_25 rfl (lv_at hl 4 rfl) ?_
    refine va_slen hx hb hX hbl hbA h.2.2.2.2.2.1 dL_law_26 ?_
    refine lv_bipush (v := 6) hx hb dL_law_27 (by decide) ?_
    refine lv_isub hx hb dL_law_29 ?_
    have e1 : (Int32.ofNat L).toInt = L := Int32.toInt_ofNat_of_lt (by omega)
    have e2 : (Int32.ofNat L - 6).toInt = L - 6 := i_sub e1 (by decide) (by omega)
    have g1 : cells + x.c + y.c ≤ 601024 := h.2.2.2.2.2.2.1
    have g2 : slots + x.z + y.z ≤ 7293034 := h.2.2.2.2.2.2.2
    refine lv_icmp_gt (tgt := 1038) hx hb dL_law_30 (by decide) (fun _ => law_out hx hb hr hlocks hAo h.2.2.2.2.2.1 (by omega) (by omega)) (fun z => ?_)
    have hi : 0 ≤ i.toInt ∧ i.toInt + 6 ≤ L := by
      rw [Int32.lt_iff_toInt_lt, e2] at z
      omega
    clear e1 e2 z
    obtain ⟨N', rfl⟩ : ∃ N', N = N' + 1 := ⟨N - 1, by omega⟩
    have ei : (i + 6).toInt = i.toInt + 6 := i_add rfl (by decide) (by omega)
    have hM : M < 300000 := by omega
    -- behind a case
    have back : ∀ (H : Heap) (locs : List Loc) (ls : Array Slot) (cells slots N M : Nat) (a : AS) (f : Nat → Int64) (x y : HS), n ≤ N → M + n ≤ 600 → lv_has ls 7 [(4, .int i), (3, .ref ao), (2, .ref mo), (1, .ref xo), (0, .ref b)] → KZ xo N a x → RM mo M a y → LW D cA A s H locs cells slots ao f x y → W p l e room_1 s m #[Value.ref b] below meth c H locs cells slots (lw_Z below #[Value.ref b] s) (F0 m 1032 ls []) := by
      intro H locs ls cells slots N M a f x y q1 q2 hl hk hR h
      refine lv_iinc (x := i) (v := i + 6) (lv' := [(4, .int (i + 6)), (3, .ref ao), (2, .ref mo), (1, .ref xo), (0, .ref b)]) hx hb dL_law_1032 hl (k := 0) rfl (by rw [show Int32.ofInt 6 = 6 from by decide]) (by decide) rfl (fun ls hl => ?_)
      refine lv_goto (tgt := 23) hx hb dL_law_1035 (by decide) ?_
      exact ih H locs ls cells slots N M a f x y (i + 6) (by omega) (by omega) (by omega) q1 q2 hl hk hR h
    have K : ∀ (H : Heap) (locs : List Loc) (ls : Array Slot) (cells slots : Nat) (a : AS) (f : Nat → Int64) (x y : HS), lv_has ls 7 [(4, .int i), (3, .ref ao), (2, .ref mo), (1, .ref xo), (0, .ref b)] → KZ xo N' a x → RM mo (M + 1) a y → LW D cA A s H locs cells slots ao f x y → W p l e room_1 s m #[Value.ref b] below meth c H locs cells slots (lw_Z below #[Value.ref b] s) (F0 m 1032 ls []) := fun H locs ls cells slots a f x y hl hk hR h => back H locs ls cells slots N' (M + 1) a f x y (by omega) (by omega) hl hk hR h
    refine lv_aload_n hx hb dL_law_33 rfl (lv_at hl 4 rfl) ?_
    refine lv_iload hx hb dL_law_34 (lv_at hl 0 rfl) ?_
    refine va_sld hx hb hX hbl hbA h.2.2.2.2.2.1 (k_vpin ⟨h1, by omega⟩) dL_law_36 ?_
    refine lv_bipush (v := 31) hx hb dL_law_37 (by decide) ?_
    refine lv_iand hx hb dL_law_39 ?_
    refine lv_topi (fun z ez => ?_)
    rcases sp_c22 z with rfl | rfl | rfl | rfl | rfl | rfl | rfl | rfl | rfl | rfl | rfl | rfl | rfl | rfl | rfl | rfl | rfl | rfl | rfl | rfl | rfl | rfl | hsw
    · refine lv_tableIn (off := 104) (tgt := 144) hx hb dL_law_40 (by decide) (by decide) (by decide) (by decide) ?_
      exact law_feed hl0 D cA hx hb hml hown hts hX hbl hbA hA hZ hK hi hL hM hl hk hR h K
    · refine lv_tableIn (off := 180) (tgt := 220) hx hb dL_law_40 (by decide) (by decide) (by decide) (by decide) ?_
      exact law_end hl0 D cA hx hb hml hown hts hX hbl hbA hA hZ hK hi hL hM hl hk hR h K
    · refine lv_tableIn (off := 208) (tgt := 248) hx hb dL_law_40 (by decide) (by decide) (by decide) (by decide) ?_
      exact law_value hl0 D cA hx hb hml hown hts hX hbl hbA hA hZ hK hi hL hM hl hk hR h K
    · refine lv_tableIn (off := 248) (tgt := 288) hx hb dL_law_40 (by decide) (by decide) (by decide) (by decide) ?_
      exact law_table hl0 D cA hx hb hml hown hts hX hbl hbA hA hZ hK hi hL hM hl hk hR h K
    · refine lv_tableIn (off := 276) (tgt := 316) hx hb dL_law_40 (by decide) (by decide) (by decide) (by decide) ?_
      exact law_index hl0 D cA hx hb hml hown hts hX hbl hbA hA hZ hK hi hL hM hl hk hR h K
    · refine lv_tableIn (off := 316) (tgt := 356) hx hb dL_law_40 (by decide) (by decide) (by decide) (by decide) ?_
      exact law_key hl0 D cA hx hb hml hown hts hX hbl hbA hA hZ hK hi hL hM hl hk hR h K
    · refine lv_tableIn (off := 356) (tgt := 396) hx hb dL_law_40 (by decide) (by decide) (by decide) (by decide) ?_
      exact law_add hl0 D cA hx hb hml hown hts hX hbl hbA hA hZ hK hi hL hM hl hk hR h K
    · refine lv_tableIn (off := 396) (tgt := 436) hx hb dL_law_40 (by decide) (by decide) (by decide) (by decide) ?_
      exact law_remove hl0 D cA hx hb hml hown hts hX hbl hbA hA hZ hK hi hL hM hl hk hR h K
    · refine lv_tableIn (off := 448) (tgt := 488) hx hb dL_law_40 (by decide) (by decide) (by decide) (by decide) ?_
      exact law_find hl0 D cA hx hb hml hown hts hX hbl hbA hA hZ hK hi hL hM hl hk hR h K
    · refine lv_tableIn (off := 500) (tgt := 540) hx hb dL_law_40 (by decide) (by decide) (by decide) (by decide) ?_
      exact law_many hl0 D cA hx hb hml hown hts hX hbl hbA hA hZ hK hi hL hM hl hk hR h K
    · refine lv_tableIn (off := 552) (tgt := 592) hx hb dL_law_40 (by decide) (by decide) (by decide) (by decide) ?_
      exact law_open hl0 D cA hx hb hml hown hts hX hbl hbA hA hZ hK hi hL hM hl hk hR h K
    · refine lv_tableIn (off := 604) (tgt := 644) hx hb dL_law_40 (by decide) (by decide) (by decide) (by decide) ?_
      exact law_next hl0 D cA hx hb hml hown hts hX hbl hbA hA hZ hK hi hL hM hl hk hR h K
    · refine lv_tableIn (off := 632) (tgt := 672) hx hb dL_law_40 (by decide) (by decide) (by decide) (by decide) ?_
      exact law_close hl0 D cA hx hb hml hown hts hX hbl hbA hA hZ hK hi hL hM hl hk hR h K
    · refine lv_tableIn (off := 660) (tgt := 700) hx hb dL_law_40 (by decide) (by decide) (by decide) (by decide) ?_
      exact law_fact hl0 D cA hx hb hml hown hts hX hbl hbA hA hZ hK hi hL hM hl hk hR h K
    · refine lv_tableIn (off := 700) (tgt := 740) hx hb dL_law_40 (by decide) (by decide) (by decide) (by decide) ?_
      exact law_mark hl0 D cA hx hb hml hown hts hX hbl hbA hA hZ hK hi hL hM hl hk hR h K
    · refine lv_tableIn (off := 716) (tgt := 756) hx hb dL_law_40 (by decide) (by decide) (by decide) (by decide) ?_
      exact law_back hl0 D cA hx hb hml hown hts hX hbl hbA hA hZ hK hi hL hM hl hk hR h K
    · refine lv_tableIn (off := 760) (tgt := 800) hx hb dL_law_40 (by decide) (by decide) (by decide) (by decide) ?_
      exact law_purge hl0 D cA hx hb hml hown hts hX hbl hbA hA hZ hK hi hL hM hl hk hR h K
    · refine lv_tableIn (off := 788) (tgt := 828) hx hb dL_law_40 (by decide) (by decide) (by decide) (by decide) ?_
      exact law_changes hl0 D cA hx hb hml hown hts hX hbl hbA hA hZ hK hi hL hM hl hk hR h K
    · refine lv_tableIn (off := 840) (tgt := 880) hx hb dL_law_40 (by decide) (by decide) (by decide) (by decide) ?_
      exact law_found hl0 D cA hx hb hml hown hts hX hbl hbA hA hZ hK hi hL hM hl hk hR h K
    · refine lv_tableIn (off := 896) (tgt := 936) hx hb dL_law_40 (by decide) (by decide) (by decide) (by decide) ?_
      exact law_question hl0 D cA hx hb hml hown hts hX hbl hbA hA hZ hK hi hL hM hl hk hR h K
    · refine lv_tableIn (off := 924) (tgt := 964) hx hb dL_law_40 (by decide) (by decide) (by decide) (by decide) ?_
      exact law_solution hl0 D cA hx hb hml hown hts hX hbl hbA hA hZ hK hi hL hM hl hk hR h K
    · refine lv_tableIn (off := 964) (tgt := 1004) hx hb dL_law_40 (by decide) (by decide) (by decide) (by decide) ?_
      exact law_count hl0 D cA hx hb hml hown hts hX hbl hbA hA hZ hK hi hL hM hl hk hR h K
    · refine lv_tableOut (tgt := 1032) hx hb dL_law_40 hsw (by decide) ?_
      exact back H locs ls cells slots (N' + 1) M a f x y (by omega) (by omega) hl hk hR h
