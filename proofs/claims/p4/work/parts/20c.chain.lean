/-! A WALK ALONG A LIST that writes nothing -/
theorem lst_loop {p : Program} {l : Launch} {e : Env} {R : Room} {s : State} {m : MethodId} {args : Array Value} {below : List Frame} {meth : Method} {c : Code} {H : Heap} {locs : List Loc} {cells slots : Nat} {Q : State → Prop} {pc nL : Nat} {σ : Type} (lvf : List Nat → σ → List (Nat × Value)) (L0 : List Nat)
    (done : ∀ (a : σ) (ls : Array Slot), lv_has ls nL (lvf [] a) → W p l e R s m args below meth c H locs cells slots Q (F0 m pc ls []))
    (body : ∀ (x : Nat) (S : List Nat) (a : σ) (ls : Array Slot), lv_has ls nL (lvf (x :: S) a) → (∃ P, L0 = P ++ x :: S) → (∀ (a' : σ) (ls' : Array Slot), lv_has ls' nL (lvf S a') → W p l e R s m args below meth c H locs cells slots Q (F0 m pc ls' [])) → W p l e R s m args below meth c H locs cells slots Q (F0 m pc ls [])) :
    ∀ (a : σ) (ls : Array Slot), lv_has ls nL (lvf L0 a) → W p l e R s m args below meth c H locs cells slots Q (F0 m pc ls []) := by
  have h : ∀ (S : List Nat), (∃ P, L0 = P ++ S) → ∀ (a : σ) (ls : Array Slot), lv_has ls nL (lvf S a) → W p l e R s m args below meth c H locs cells slots Q (F0 m pc ls []) := by
    intro S
    induction S with
    | nil => intro _ a ls hl; exact done a ls hl
    | cons x S ih =>
      intro hP a ls hl
      obtain ⟨P, hP⟩ := hP
      exact body x S a ls hl ⟨P, hP⟩ (fun a' ls' hl' => ih ⟨P ++ [x], by rw [hP, List.append_assoc]; rfl⟩ a' ls' hl')
  exact h L0 ⟨[], rfl⟩
theorem lv_astore_nQ {p : Program} {l : Launch} {e : Env} {R : Room} {s : State} {m : MethodId} {args : Array Value} {below : List Frame} {meth : Method} {c : Code} {H : Heap} {locs : List Loc} {cells slots : Nat} {Q : State → Prop} {pc : Nat} {ls : Array Slot} {rest : List Value} {cc : ByteArray} (hexec : p.tables.exec = Jvm.exec) (hb : c.code = cc) {k : Fin 4} {i nL : Nat} {o : Option Nat} {lv lv' : List (Nat × Value)} (hdg : decode cc pc = .ok (.astore_n k, 1)) (hi : (k : Nat) = i) (h : lv_has ls nL lv) (hn : i < nL) (hl : lv.filter (fun q => !(q.1 == i) && !(q.1 + 1 == i && q.2.category == 2)) = lv')
    (kk : ∀ ls' : Array Slot, lv_has ls' nL ((i, va_rf o) :: lv') → W p l e R s m args below meth c H locs cells slots Q (F0 m (pc + 1) ls' rest)) : W p l e R s m args below meth c H locs cells slots Q (F0 m pc ls (va_rf o :: rest)) := by
  cases o with
  | none => exact lv_astore_nN hexec hb hdg hi h hn rfl (fun ls' h' => kk ls' (by rw [← hl]; exact h'))
  | some x => exact lv_astore_n hexec hb hdg hi h hn rfl (fun ls' h' => kk ls' (by rw [← hl]; exact h'))
theorem dX0_factsAhead_0 : decode cX0_factsAhead 0 = .ok (.iconst 0, 1) := by decide +kernel
theorem dX0_factsAhead_1 : decode cX0_factsAhead 1 = .ok (.istore_n 2, 1) := by decide +kernel
theorem dX0_factsAhead_2 : decode cX0_factsAhead 2 = .ok (.aload_n 0, 1) := by decide +kernel
theorem dX0_factsAhead_3 : decode cX0_factsAhead 3 = .ok (.getfield 26, 3) := by decide +kernel
theorem dX0_factsAhead_6 : decode cX0_factsAhead 6 = .ok (.astore_n 3, 1) := by decide +kernel
theorem dX0_factsAhead_7 : decode cX0_factsAhead 7 = .ok (.aload_n 3, 1) := by decide +kernel
theorem dX0_factsAhead_8 : decode cX0_factsAhead 8 = .ok (.ifnull 24, 3) := by decide +kernel
theorem dX0_factsAhead_11 : decode cX0_factsAhead 11 = .ok (.aload_n 3, 1) := by decide +kernel
theorem dX0_factsAhead_12 : decode cX0_factsAhead 12 = .ok (.aload_n 1, 1) := by decide +kernel
theorem dX0_factsAhead_13 : decode cX0_factsAhead 13 = .ok (.if_acmp .eq 19, 3) := by decide +kernel
theorem dX0_factsAhead_16 : decode cX0_factsAhead 16 = .ok (.iinc 2 1, 3) := by decide +kernel
theorem dX0_factsAhead_19 : decode cX0_factsAhead 19 = .ok (.aload_n 3, 1) := by decide +kernel
theorem dX0_factsAhead_20 : decode cX0_factsAhead 20 = .ok (.getfield 20, 3) := by decide +kernel
theorem dX0_factsAhead_23 : decode cX0_factsAhead 23 = .ok (.aload_n 0, 1) := by decide +kernel
theorem dX0_factsAhead_24 : decode cX0_factsAhead 24 = .ok (.getfield 7, 3) := by decide +kernel
theorem dX0_factsAhead_27 : decode cX0_factsAhead 27 = .ok (.aaload, 1) := by decide +kernel
theorem dX0_factsAhead_28 : decode cX0_factsAhead 28 = .ok (.astore_n 3, 1) := by decide +kernel
theorem dX0_factsAhead_29 : decode cX0_factsAhead 29 = .ok (.goto (-22), 3) := by decide +kernel
theorem dX0_factsAhead_32 : decode cX0_factsAhead 32 = .ok (.iload_n 2, 1) := by decide +kernel
theorem dX0_factsAhead_33 : decode cX0_factsAhead 33 = .ok (.ireturn, 1) := by decide +kernel
set_option maxHeartbeats 4000000 in
set_option maxRecDepth 100000 in
theorem x_factsAhead (l : Launch) (hl0 : l.stackTraces = false) (dC : Nat → ClassId) (dI : Nat → Nat → Nat) (cA : Nat → ClassId) (LP : List Nat) (k n : Nat → Nat) (I : Nat → Nat → Int32) (F : Nat → Nat → Option Nat) (J : Nat → Nat → Int32) (G : Nat → Nat → Option Nat) (q f : Nat) (ln : Nat) (L : List Nat) (bb : Nat → Nat) (sz : Nat) (hq : q ∈ LP) (hkq : k q = 0) (hln : I q 0 = nI ln) (hl5 : ln < 5) (hfi : F q 3 = L.head?) (hL : ∀ x ∈ L, x ∈ LP ∧ k x = 1 ∧ F x 1 = some (bb x) ∧ bb x ∈ LP ∧ k (bb x) = 25 ∧ n (bb x) = 5) (hk : Lk (fun x => G (bb x) ln) L) : Met l yX0_factsAhead wsX0_factsAhead ({ frames := 0, cells := 0, slots := 0, locals := 0 } : Room) (va_Pc [.ref q, .ref f] (ct_P (dC, dI) (po LP (hp cA k n I F J G)) (tyA cA) sz)) (va_Qi (fun (r : Int32) (u : Unit) => True) (fun u => ct_B (dC, dI) (va_A (po LP (hp cA k n I F J G)) sz) (po LP (hp cA k n I F J G)) (tyA cA)) (va_A (po LP (hp cA k n I F J G)) sz)) 0 0 (va_A (po LP (hp cA k n I F J G)) sz) := by
  refine Met.ofW (cc := cX0_factsAhead) (maxL := 4) (ret := (some .int)) (by decide) rfl ?_
  intro p e s m args below meth c s₁ B hml hv
  obtain ⟨rfl, hsz, hP, hK, hD0, hZ⟩ := hv
  have hx := B.exec
  have hb := B.bytes
  have hr := B.returns
  have hts := atoms_spec (ws := wsX0_factsAhead) B.pre
  have hown : s.vm.findClass RX0 = some m.cls := findClass_of_methodNamed B.named
  have hlocks := B.notSynchronized
  have in0 : ∀ w ∈ u_ws RX0 TX0 5, w ∈ wsX0_factsAhead := fun w h => (List.mem_cons_of_mem _ (List.mem_append_left _ (List.mem_append_right _ h)))
  have in1 : ∀ w ∈ u_ws RX1 TX1 7, w ∈ wsX0_factsAhead := fun w h => (List.mem_cons_of_mem _ (List.mem_append_right _ h))
  subst hsz
  have hD := hD0.self (sz := s.heap.size)
  generalize hAe : va_A (po LP (hp cA k n I F J G)) s.heap.size = A at hD hZ ⊢
  have hA : ∀ q : Nat, s.heap.size ≤ q → A q := fun q h => by rw [← hAe]; exact Or.inr h
  have hS : va_S A s.heap s.heap [] := va_S.rf
  have hl := lv_entry ([.ref q, .ref f]) (n := 4) (Nat.le_of_ble_eq_true rfl)
  rw [lg_entry_eq]
  generalize (lg_sl ([.ref q, .ref f]) ++ List.replicate (4 - (lg_sl ([.ref q, .ref f])).length) Slot.unset).toArray = ls at hl ⊢
  have hl : lv_has ls 4 [(0, .ref q), (1, .ref f)] := hl
  have hc5 : (nI ln).toNatClampNeg = ln := nI_clamp (by omega)
  refine lv_iconst (v := 0) hx hb dX0_factsAhead_0 (by decide) ?_
  refine lv_istore_n (lv' := [(2, .int 0), (0, .ref q), (1, .ref f)]) hx hb dX0_factsAhead_1 rfl hl (by decide) rfl (fun ls hl => ?_)
  refine lv_aload_n hx hb dX0_factsAhead_2 rfl (lv_at hl 1 rfl) ?_
  refine hg_getF (C := RX0) (T := TX0) (N := 5) hx hb hts in0 hown hK hP hq hkq (by decide) rfl 3 (by decide) rfl (hts (.fieldLink RX0 26 "FactKeeper$Chain" "first" "LFactKeeper$Fact;") (by decide +kernel)) (fun _ h9 => h9) dX0_factsAhead_3 ?_
  rw [hfi]
  refine lv_astore_nQ (lv' := [(2, .int 0), (0, .ref q), (1, .ref f)]) hx hb dX0_factsAhead_6 rfl hl (by decide) rfl (fun ls hl => ?_)
  refine lst_loop (σ := Int32) (fun S a => [(3, va_rf S.head?), (2, .int a), (0, .ref q), (1, .ref f)]) L (fun a ls hl => ?_) (fun x S a ls hl hPS ih => ?_) 0 ls hl
  · have hl : lv_has ls 4 [(3, .null), (2, .int a), (0, .ref q), (1, .ref f)] := hl
    refine lv_aload_nN hx hb dX0_factsAhead_7 rfl (lv_at hl 0 rfl) ?_
    refine lv_ifnullN (tgt := 32) hx hb dX0_factsAhead_8 (by decide) ?_
    refine lv_iload_n hx hb dX0_factsAhead_32 rfl (lv_at hl 1 rfl) ?_
    exact (W.iret (v := a) hx hb hr (fun t ht hW => ⟨⟨a, (), rfl, trivial, by rw [ht]; exact hP, va_K.moved hW.alike hK, hD⟩, hS.F ht⟩) hS.2.2 dX0_factsAhead_33)
  · have hl : lv_has ls 4 [(3, .ref x), (2, .int a), (0, .ref q), (1, .ref f)] := hl
    obtain ⟨P0, hPS⟩ := hPS
    obtain ⟨hx0, hkx, hxb, hb0, hkb, hnb⟩ := hL x (by rw [hPS]; simp)
    have hnx : G (bb x) ln = S.head? := Lk_next (nx := fun x => G (bb x) ln) (by rw [← hPS]; exact hk)
    refine lv_aload_n hx hb dX0_factsAhead_7 rfl (lv_at hl 0 rfl) ?_
    refine lv_ifnull hx hb dX0_factsAhead_8 ?_
    refine lv_aload_n hx hb dX0_factsAhead_11 rfl (lv_at hl 0 rfl) ?_
    refine lv_aload_n hx hb dX0_factsAhead_12 rfl (lv_at hl 3 rfl) ?_
    refine lv_acmp_eq (rx := some x) (ry := some f) (tgt := 32) hx hb dX0_factsAhead_13 (by decide) (fun _ => ?_) (fun _ => ?_)
    · refine lv_iload_n hx hb dX0_factsAhead_32 rfl (lv_at hl 1 rfl) ?_
      exact (W.iret (v := a) hx hb hr (fun t ht hW => ⟨⟨a, (), rfl, trivial, by rw [ht]; exact hP, va_K.moved hW.alike hK, hD⟩, hS.F ht⟩) hS.2.2 dX0_factsAhead_33)
    obtain ⟨a2, ha2⟩ : ∃ y : Int32, y = a + 1 := ⟨_, rfl⟩
    refine lv_iinc (v := a2) (lv' := [(2, .int a2), (3, .ref x), (0, .ref q), (1, .ref f)]) hx hb dX0_factsAhead_16 hl (k := 1) rfl (by rw [ha2]; rfl) (by decide) rfl (fun ls hl => ?_)
    refine lv_aload_n hx hb dX0_factsAhead_19 rfl (lv_at hl 1 rfl) ?_
    refine hg_getF (C := RX1) (T := TX1) (N := 7) hx hb hts in1 hown hK hP hx0 hkx (by decide) rfl 1 (by decide) rfl (hts (.fieldLink RX0 20 "FactKeeper$Fact" "behind" "[LFactKeeper$Fact;") (by decide +kernel)) (fun _ h9 => h9) dX0_factsAhead_20 ?_
    refine W.eq (g2 := F0 m 23 ls [.ref (bb x)]) (by rw [hxb]; rfl) ?_
    refine lv_aload_n hx hb dX0_factsAhead_23 rfl (lv_at hl 2 rfl) ?_
    refine hg_getI (C := RX0) (T := TX0) (N := 5) hx hb hts in0 hown hK hP hq hkq (by decide) rfl 0 (by decide) rfl (hts (.fieldLink RX0 7 "FactKeeper$Chain" "lane" "I") (by decide +kernel)) (fun _ h9 => h9) dX0_factsAhead_24 ?_
    rw [hln]
    refine hg_aald hx hb hK hP 4 hb0 hkb (by decide) hnb rfl (vp_in_nI hl5 (by decide)) dX0_factsAhead_27 ?_
    rw [hc5, hnx]
    refine lv_astore_nQ (lv' := [(2, .int a2), (0, .ref q), (1, .ref f)]) hx hb dX0_factsAhead_28 rfl hl (by decide) rfl (fun ls hl => ?_)
    refine lv_goto (tgt := 7) hx hb dX0_factsAhead_29 (by decide) ?_
    exact ih a2 ls hl
