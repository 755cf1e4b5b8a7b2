/-! THE POOL: any number of cells, by their addresses -/
abbrev po (LP : List Nat) (E : Nat → va_E) : va_W := LP.map (fun a => (a, E a))
theorem po_nth {LP : List Nat} {E : Nat → va_E} {k a : Nat} (h : LP[k]? = some a) : (po LP E)[k]? = some (a, E a) := by
  rw [List.getElem?_map, h]; rfl
theorem po_ix {LP : List Nat} {a : Nat} (h : a ∈ LP) : ∃ k : Nat, LP[k]? = some a := List.mem_iff_getElem?.mp h
theorem po_mem {LP : List Nat} {k a : Nat} (h : LP[k]? = some a) : a ∈ LP := List.mem_iff_getElem?.mpr ⟨k, h⟩
theorem po_set {LP : List Nat} {E : Nat → va_E} {k a : Nat} {e : va_E} (hn : ∀ i j x : Nat, LP[i]? = some x → LP[j]? = some x → i = j) (h : LP[k]? = some a) : (po LP E).set k (a, e) = po LP (va_up E a e) := by
  apply List.ext_getElem?
  intro j
  rw [List.getElem?_set, List.getElem?_map, List.getElem?_map]
  have hk : k < LP.length := (List.getElem?_eq_some_iff.mp h).1
  by_cases hj : k = j
  · subst hj
    rw [if_pos rfl, if_pos (by rw [List.length_map]; exact hk), h]
    show some (a, e) = some (a, va_up E a e a)
    rw [va_up_self]
  · rw [if_neg hj]
    cases hb : LP[j]? with
    | none => rfl
    | some b =>
      have hne : b ≠ a := fun q => hj (hn k j a h (by rw [hb, q]))
      show some (b, E b) = some (b, va_up E a e b)
      rw [va_up_ne _ _ hne]
theorem po_nd {A : Nat → Prop} {LP : List Nat} {E : Nat → va_E} (hD : va_D A (po LP E)) : ∀ i j x : Nat, LP[i]? = some x → LP[j]? = some x → i = j :=
  fun i j x h1 h2 => hD.1 i j _ _ (po_nth (E := E) h1) (po_nth (E := E) h2) rfl
theorem po_push {LP : List Nat} {E : Nat → va_E} {q : Nat} {e : va_E} (hq : q ∉ LP) : po LP E ++ [(q, e)] = po (LP ++ [q]) (va_up E q e) := by
  show LP.map (fun a => (a, E a)) ++ [(q, e)] = (LP ++ [q]).map (fun a => (a, va_up E q e a))
  rw [List.map_append]
  have h1 : LP.map (fun a => (a, E a)) = LP.map (fun a => (a, va_up E q e a)) := by
    apply List.map_congr_left
    intro b hb
    have hne : b ≠ q := fun h => hq (h ▸ hb)
    rw [va_up_ne _ _ hne]
  rw [h1]
  show _ ++ [(q, e)] = _ ++ [(q, va_up E q e q)]
  rw [va_up_self]
theorem po_new {A : Nat → Prop} {LP : List Nat} {E : Nat → va_E} {q : Nat} {e : va_E} (hD : va_D A (po LP E ++ [(q, e)])) : q ∉ LP := by
  intro hq
  obtain ⟨k, hk⟩ := po_ix hq
  have hl : k < (po LP E).length := by rw [List.length_map]; exact (List.getElem?_eq_some_iff.mp hk).1
  have h1 : (po LP E ++ [(q, e)])[k]? = some (q, E q) := by rw [List.getElem?_append_left hl]; exact po_nth hk
  have h2 : (po LP E ++ [(q, e)])[(po LP E).length]? = some (q, e) := by rw [List.getElem?_append_right (Nat.le_refl _), Nat.sub_self]; rfl
  have := hD.1 _ _ _ _ h1 h2 rfl
  omega
section PO
variable {p : Program} {l : Launch} {e : Env} {R : Room} {s : State} {m : MethodId} {args : Array Value} {below : List Frame} {meth : Method} {c : Code} {H : Heap} {locs : List Loc} {cells slots : Nat} {Q : State → Prop} {D : va_G} {cl : List vw_C} {tys : List (ClassId × FieldType)} {LP : List Nat} {E : Nat → va_E} {A : Nat → Prop} {H0 : Heap} {cc : ByteArray} {pc : Nat} {ls : Array Slot} {rest : List Value} {a : Nat}
theorem pg_get (hexec : p.tables.exec = Jvm.exec) (hb : c.code = cc) {own ref C : String} {T : u_T} {N ci index : Nat} {Ts : List Cond} (hts : ∀ w ∈ Ts, w.before args s = true) (hin : ∀ w ∈ u_ws C T N, w ∈ Ts) (hown : s.vm.findClass own = some m.cls) (hK : va_K D cl tys s) (hP : va_P D cl (po LP E) H) {fs : List Value} (ha : a ∈ LP) (he : E a = .inr (ci, fs)) (hc : cl[ci]? = some (C, T, N)) (k : Nat) (hk : k < N) (hlink : (Cond.fieldLink own index ref (T k).2.1 (T k).2.2.1).before args s = true) (hsame : ∀ x, s.fieldFound? (T k).1 (T k).2.1 (T k).2.2.1 = some x → s.fieldFound? ref (T k).2.1 (T k).2.2.1 = some x) {v : Value} (hv : fs[k]? = some v) (hdg : decode cc pc = .ok (.getfield index, 3))
    (kk : W p l e R s m args below meth c H locs cells slots Q (F0 m (pc + 3) ls (v :: rest))) : W p l e R s m args below meth c H locs cells slots Q (F0 m pc ls (.ref a :: rest)) := by
  obtain ⟨q0, h0⟩ := po_ix ha
  exact va_get hexec hb hts hin hown hK hP q0 (by rw [po_nth h0, he]) hc k hk hlink hsame hv hdg kk
theorem pg_put (hexec : p.tables.exec = Jvm.exec) (hb : c.code = cc) {own ref C : String} {T : u_T} {N ci index : Nat} {Ts : List Cond} (hts : ∀ w ∈ Ts, w.before args s = true) (hin : ∀ w ∈ u_ws C T N, w ∈ Ts) (ty0 : Nat → FieldType) (hty : ∀ k, k < N → parseFieldDescriptor (T k).2.2.1 = some (ty0 k)) (hnm : ∀ a, a < N → ∀ b, b < N → a ≠ b → (T a).2.1 ≠ (T b).2.1) (hown : s.vm.findClass own = some m.cls) (hK : va_K D cl tys s) (hP : va_P D cl (po LP E) H) (hD : va_D A (po LP E)) (hS0 : va_S A H0 H locs) {fs : List Value} (ha : a ∈ LP) (he : E a = .inr (ci, fs)) (hc : cl[ci]? = some (C, T, N)) (k : Nat) (hk : k < N) (hlink : (Cond.fieldLink own index ref (T k).2.1 (T k).2.2.1).before args s = true) (hsame : ∀ x, s.fieldFound? (T k).1 (T k).2.1 (T k).2.2.1 = some x → s.fieldFound? ref (T k).2.1 (T k).2.2.1 = some x) (hfin : (T k).2.2.2 = false) {ty : FieldType} {v : Value} (hd : parseFieldDescriptor (T k).2.2.1 = some ty) (hn : narrow ty v = v) (hfit : fits ty v = true) (hl : k < fs.length)
    (hdg : decode cc pc = .ok (.putfield index, 3)) (kk : ∀ (H1 : Heap) (locs1 : List Loc), va_P D cl (po LP (va_up E a (.inr (ci, fs.set k v)))) H1 → va_D A (po LP (va_up E a (.inr (ci, fs.set k v)))) → va_S A H0 H1 locs1 → W p l e R s m args below meth c H1 locs1 cells slots Q (F0 m (pc + 3) ls rest)) : W p l e R s m args below meth c H locs cells slots Q (F0 m pc ls (v :: .ref a :: rest)) := by
  obtain ⟨q0, h0⟩ := po_ix ha
  have hs := po_set (E := E) (e := .inr (ci, fs.set k v)) (po_nd hD) h0
  refine va_put hexec hb hts hin ty0 hty hnm hown hK hP hD hS0 q0 (by rw [po_nth h0, he]) hc k hk hlink hsame hfin hd hn hfit hl hdg (fun H1 locs1 h1 h2 h3 => ?_)
  rw [hs] at h1 h2
  exact kk H1 locs1 h1 h2 h3
theorem pg_iald (hexec : p.tables.exec = Jvm.exec) (hb : c.code = cc) (hK : va_K D cl tys s) (hP : va_P D cl (po LP E) H) (t0 : Nat) {cA : ClassId} {n : Nat} {f : Nat → Int32} (ha : a ∈ LP) (he : E a = .inl (cA, n, .inl f)) (ht : tys[t0]? = some (cA, .int)) {i : Int32} (hin : vp_in i n) (hdg : decode cc pc = .ok (.iaload, 1))
    (kk : W p l e R s m args below meth c H locs cells slots Q (F0 m (pc + 1) ls (.int (f i.toNatClampNeg) :: rest))) : W p l e R s m args below meth c H locs cells slots Q (F0 m pc ls (.int i :: .ref a :: rest)) := by
  obtain ⟨q0, h0⟩ := po_ix ha
  exact va_iald hexec hb hK hP q0 t0 (by rw [po_nth h0, he]) ht hin hdg kk
theorem pg_zald (hexec : p.tables.exec = Jvm.exec) (hb : c.code = cc) (hK : va_K D cl tys s) (hP : va_P D cl (po LP E) H) (t0 : Nat) {cA : ClassId} {n : Nat} {f : Nat → Int32} (ha : a ∈ LP) (he : E a = .inl (cA, n, .inl f)) (ht : tys[t0]? = some (cA, .boolean)) {i : Int32} (hin : vp_in i n) (hdg : decode cc pc = .ok (.baload, 1))
    (kk : W p l e R s m args below meth c H locs cells slots Q (F0 m (pc + 1) ls (.int (f i.toNatClampNeg) :: rest))) : W p l e R s m args below meth c H locs cells slots Q (F0 m pc ls (.int i :: .ref a :: rest)) := by
  obtain ⟨q0, h0⟩ := po_ix ha
  exact va_zald hexec hb hK hP q0 t0 (by rw [po_nth h0, he]) ht hin hdg kk
theorem pg_bald (hexec : p.tables.exec = Jvm.exec) (hb : c.code = cc) (hK : va_K D cl tys s) (hP : va_P D cl (po LP E) H) (t0 : Nat) {cA : ClassId} {n : Nat} {f : Nat → Int32} (ha : a ∈ LP) (he : E a = .inl (cA, n, .inl f)) (ht : tys[t0]? = some (cA, .byte)) {i : Int32} (hin : vp_in i n) (hdg : decode cc pc = .ok (.baload, 1))
    (kk : W p l e R s m args below meth c H locs cells slots Q (F0 m (pc + 1) ls (.int (f i.toNatClampNeg) :: rest))) : W p l e R s m args below meth c H locs cells slots Q (F0 m pc ls (.int i :: .ref a :: rest)) := by
  obtain ⟨q0, h0⟩ := po_ix ha
  exact va_bald hexec hb hK hP q0 t0 (by rw [po_nth h0, he]) ht hin hdg kk
theorem pg_ald (hexec : p.tables.exec = Jvm.exec) (hb : c.code = cc) (hK : va_K D cl tys s) (hP : va_P D cl (po LP E) H) (t0 : Nat) {cA : ClassId} {C : String} {n : Nat} {f : Nat → Option Nat} (ha : a ∈ LP) (he : E a = .inl (cA, n, .inr (.inr (.inr (.inr f))))) (ht : tys[t0]? = some (cA, .object C)) {i : Int32} (hin : vp_in i n) (hdg : decode cc pc = .ok (.aaload, 1))
    (kk : W p l e R s m args below meth c H locs cells slots Q (F0 m (pc + 1) ls (va_rf (f i.toNatClampNeg) :: rest))) : W p l e R s m args below meth c H locs cells slots Q (F0 m pc ls (.int i :: .ref a :: rest)) := by
  obtain ⟨q0, h0⟩ := po_ix ha
  exact va_aldq hexec hb hK hP q0 t0 (by rw [po_nth h0, he]) ht hin hdg kk
theorem pg_iast (hexec : p.tables.exec = Jvm.exec) (hb : c.code = cc) (hK : va_K D cl tys s) (hP : va_P D cl (po LP E) H) (hD : va_D A (po LP E)) (hS : va_S A H0 H locs) (t0 : Nat) {cA : ClassId} {n : Nat} {f : Nat → Int32} (ha : a ∈ LP) (he : E a = .inl (cA, n, .inl f)) (ht : tys[t0]? = some (cA, .int)) {i x : Int32} (hin : vp_in i n) (hdg : decode cc pc = .ok (.iastore, 1))
    (kk : ∀ (H1 : Heap) (locs1 : List Loc), va_P D cl (po LP (va_up E a (.inl (cA, n, .inl (upd f i.toNatClampNeg x))))) H1 → va_D A (po LP (va_up E a (.inl (cA, n, .inl (upd f i.toNatClampNeg x))))) → va_S A H0 H1 locs1 → W p l e R s m args below meth c H1 locs1 cells slots Q (F0 m (pc + 1) ls rest)) : W p l e R s m args below meth c H locs cells slots Q (F0 m pc ls (.int x :: .int i :: .ref a :: rest)) := by
  obtain ⟨q0, h0⟩ := po_ix ha
  have hs := po_set (E := E) (e := .inl (cA, n, .inl (upd f i.toNatClampNeg x))) (po_nd hD) h0
  refine va_iast hexec hb hK hP hD hS q0 t0 (by rw [po_nth h0, he]) ht hin hdg (fun H1 locs1 h1 h2 h3 => ?_)
  rw [hs] at h1 h2
  exact kk H1 locs1 h1 h2 h3
theorem pg_ast (hexec : p.tables.exec = Jvm.exec) (hb : c.code = cc) (hK : va_K D cl tys s) (hP : va_P D cl (po LP E) H) (hD : va_D A (po LP E)) (hS : va_S A H0 H locs) (t0 ci : Nat) {cA : ClassId} {r : vw_C} {n v : Nat} {vs : List Value} {f : Nat → Option Nat} (ha : a ∈ LP) (he : E a = .inl (cA, n, .inr (.inr (.inr (.inr f))))) (ht : tys[t0]? = some (cA, .object r.1)) (hv : v ∈ LP) (hve : E v = .inr (ci, vs)) (hc : cl[ci]? = some r) {i : Int32} (hin : vp_in i n) (hdg : decode cc pc = .ok (.aastore, 1))
    (kk : ∀ (H1 : Heap) (locs1 : List Loc), va_P D cl (po LP (va_up E a (.inl (cA, n, .inr (.inr (.inr (.inr (va_up f i.toNatClampNeg (some v))))))))) H1 → va_D A (po LP (va_up E a (.inl (cA, n, .inr (.inr (.inr (.inr (va_up f i.toNatClampNeg (some v))))))))) → va_S A H0 H1 locs1 → W p l e R s m args below meth c H1 locs1 cells slots Q (F0 m (pc + 1) ls rest)) : W p l e R s m args below meth c H locs cells slots Q (F0 m pc ls (.ref v :: .int i :: .ref a :: rest)) := by
  obtain ⟨q0, h0⟩ := po_ix ha
  obtain ⟨qk, hk⟩ := po_ix hv
  have hs := po_set (E := E) (e := .inl (cA, n, .inr (.inr (.inr (.inr (va_up f i.toNatClampNeg (some v))))))) (po_nd hD) h0
  refine va_astq hexec hb hK hP hD hS q0 t0 qk ci (by rw [po_nth h0, he]) ht (by rw [po_nth hk, hve]) hc hin hdg (fun H1 locs1 h1 h2 h3 => ?_)
  rw [hs] at h1 h2
  exact kk H1 locs1 h1 h2 h3
theorem pg_astN (hexec : p.tables.exec = Jvm.exec) (hb : c.code = cc) (hK : va_K D cl tys s) (hP : va_P D cl (po LP E) H) (hD : va_D A (po LP E)) (hS : va_S A H0 H locs) (t0 : Nat) {cA : ClassId} {C : String} {n : Nat} {f : Nat → Option Nat} (ha : a ∈ LP) (he : E a = .inl (cA, n, .inr (.inr (.inr (.inr f))))) (ht : tys[t0]? = some (cA, .object C)) {i : Int32} (hin : vp_in i n) (hdg : decode cc pc = .ok (.aastore, 1))
    (kk : ∀ (H1 : Heap) (locs1 : List Loc), va_P D cl (po LP (va_up E a (.inl (cA, n, .inr (.inr (.inr (.inr (va_up f i.toNatClampNeg none)))))))) H1 → va_D A (po LP (va_up E a (.inl (cA, n, .inr (.inr (.inr (.inr (va_up f i.toNatClampNeg none)))))))) → va_S A H0 H1 locs1 → W p l e R s m args below meth c H1 locs1 cells slots Q (F0 m (pc + 1) ls rest)) : W p l e R s m args below meth c H locs cells slots Q (F0 m pc ls (.null :: .int i :: .ref a :: rest)) := by
  obtain ⟨q0, h0⟩ := po_ix ha
  have hs := po_set (E := E) (e := .inl (cA, n, .inr (.inr (.inr (.inr (va_up f i.toNatClampNeg none)))))) (po_nd hD) h0
  refine va_astqN hexec hb hK hP hD hS q0 t0 (by rw [po_nth h0, he]) ht hin hdg (fun H1 locs1 h1 h2 h3 => ?_)
  rw [hs] at h1 h2
  exact kk H1 locs1 h1 h2 h3
end PO
theorem po_same {U : State} {c1 c2 : ClassId} {ty : FieldType} (h1 : va_RA U c1 ty) (h2 : va_RA U c2 ty) : c1 = c2 := by
  cases ty with
  | object C =>
    obtain ⟨_, _, _, _, _, h1⟩ := h1
    obtain ⟨_, _, _, _, _, h2⟩ := h2
    exact Option.some.inj (h1.symm.trans h2)
  | _ => exact Option.some.inj (h1.symm.trans h2)
section PN
variable {p : Program} {l : Launch} {e : Env} {R : Room} {s : State} {m : MethodId} {args : Array Value} {below : List Frame} {meth : Method} {c : Code} {H : Heap} {locs : List Loc} {cells slots : Nat} {Q : State → Prop} {D : va_G} {cl : List vw_C} {tys : List (ClassId × FieldType)} {LP : List Nat} {E : Nat → va_E} {A : Nat → Prop} {H0 : Heap} {cc : ByteArray} {pc : Nat} {ls : Array Slot} {rest : List Value} {a : Nat}
theorem pg_newa (hexec : p.tables.exec = Jvm.exec) (hb : c.code = cc) {atype : ArrayType} (harr : (Cond.arrayClass (newarray.typeOf atype)).before args s = true) {ty : FieldType} (hty : newarray.typeOf atype = ty) (hK : va_K D cl tys s) (hP : va_P D cl (po LP E) H) (hD : va_D A (po LP E)) (hS : va_S A H0 H locs) (hA : ∀ q, H0.size ≤ q → A q) (t0 : Nat) {cA : ClassId} (ht : tys[t0]? = some (cA, ty))
    {n : Int32} {N' : Nat} {a0 : vp_A} (ha : ∀ cA : ClassId, vp_cell cA a0 = arrV cA N' (fun _ => defaultValue ty)) (hn : ¬ n < 0) (hN : n.toNatClampNeg = N') (hbytes : N' * componentBytes ty ≤ 536870912) (hcells : cells + 1 ≤ R.cells) (hslots : slots + N' ≤ R.slots) (hdg : decode cc pc = .ok (.newarray atype, 2))
    (kk : ∀ (q : Nat) (H1 : Heap), q ∉ LP → va_P D cl (po (LP ++ [q]) (va_up E q (.inl (cA, a0)))) H1 → va_D A (po (LP ++ [q]) (va_up E q (.inl (cA, a0)))) → va_S A H0 H1 locs →
      W p l e R s m args below meth c H1 locs (cells + 1) (slots + N') Q (F0 m (pc + 2) ls (.ref q :: rest))) : W p l e R s m args below meth c H locs cells slots Q (F0 m pc ls (.int n :: rest)) := by
  refine va_newa (atype := atype) (a0 := a0) hexec hb harr hty hK hP hD hS hA ha hn hN hbytes hcells hslots hdg (fun q cA' H1 hK1 hP1 hD1 hS1 => ?_)
  have he : (tys ++ [(cA', ty)])[tys.length]? = some (cA', ty) := by rw [List.getElem?_append_right (Nat.le_refl _), Nat.sub_self]; rfl
  cases po_same (hK1.2 _ _ he).2 (hK.2 t0 _ ht).2
  have hq := po_new hD1
  rw [po_push hq] at hP1 hD1
  exact kk q H1 hq hP1 hD1 hS1
theorem pg_newq (hexec : p.tables.exec = Jvm.exec) (hb : c.code = cc) {own C : String} {index : Nat} (hown : s.vm.findClass own = some m.cls) (hclink : (Cond.classLink own index C).before args s = true) (hover : va_AO C s) (hK : va_K D cl tys s) (hP : va_P D cl (po LP E) H) (hD : va_D A (po LP E)) (hS : va_S A H0 H locs) (hA : ∀ q, H0.size ≤ q → A q) (t0 : Nat) {cA : ClassId} (ht : tys[t0]? = some (cA, .object C))
    {n : Int32} {N' : Nat} (hn : ¬ n < 0) (hN : n.toNatClampNeg = N') (hbytes : N' * 4 ≤ 536870912) (hcells : cells + 1 ≤ R.cells) (hslots : slots + N' ≤ R.slots) (hdg : decode cc pc = .ok (.anewarray index, 3))
    (kk : ∀ (q : Nat) (H1 : Heap), q ∉ LP → va_P D cl (po (LP ++ [q]) (va_up E q (.inl (cA, N', .inr (.inr (.inr (.inr (fun _ => none)))))))) H1 → va_D A (po (LP ++ [q]) (va_up E q (.inl (cA, N', .inr (.inr (.inr (.inr (fun _ => none)))))))) → va_S A H0 H1 locs →
      W p l e R s m args below meth c H1 locs (cells + 1) (slots + N') Q (F0 m (pc + 3) ls (.ref q :: rest))) : W p l e R s m args below meth c H locs cells slots Q (F0 m pc ls (.int n :: rest)) := by
  refine va_newq (C := C) hexec hb hown hclink hover hK hP hD hS hA hn hN hbytes hcells hslots hdg (fun q cA' H1 hK1 hP1 hD1 hS1 => ?_)
  have he : (tys ++ [(cA', FieldType.object C)])[tys.length]? = some (cA', .object C) := by rw [List.getElem?_append_right (Nat.le_refl _), Nat.sub_self]; rfl
  cases po_same (hK1.2 _ _ he).2 (hK.2 t0 _ ht).2
  have hq := po_new hD1
  rw [po_push hq] at hP1 hD1
  exact kk q H1 hq hP1 hD1 hS1
theorem pg_new {own C : String} {T : u_T} {N ci index : Nat} {Ts : List Cond} (hexec : p.tables.exec = Jvm.exec) (hb : c.code = cc) (hts : ∀ w ∈ Ts, w.before args s = true) (hin : ∀ w ∈ u_ws C T N, w ∈ Ts) (ty : Nat → FieldType) (hty : ∀ k, k < N → parseFieldDescriptor (T k).2.2.1 = some (ty k)) (hown : s.vm.findClass own = some m.cls) (hcl : (Cond.classLink own index C).before args s = true) (hinst : (Cond.instantiable C N).before args s = true) (hini : (Cond.initialized C).before args s = true)
    (hK : va_K D cl tys s) (hP : va_P D cl (po LP E) H) (hD : va_D A (po LP E)) (hS : va_S A H0 H locs) (hA : ∀ q, H0.size ≤ q → A q) (hc : cl[ci]? = some (C, T, N)) {fs : List Value} (hfs : ∀ j, j < N → defaultValue (ty j) = vp_V fs j) (hcells : cells + 1 ≤ R.cells) (hslots : slots + N ≤ R.slots) (hdg : decode cc pc = .ok (.new index, 3))
    (kk : ∀ (q : Nat) (H1 : Heap), q ∉ LP → va_P D cl (po (LP ++ [q]) (va_up E q (.inr (ci, fs)))) H1 → va_D A (po (LP ++ [q]) (va_up E q (.inr (ci, fs)))) → va_S A H0 H1 locs →
      W p l e R s m args below meth c H1 locs (cells + 1) (slots + N) Q (F0 m (pc + 3) ls (.ref q :: rest))) : W p l e R s m args below meth c H locs cells slots Q (F0 m pc ls rest) := by
  refine va_new (ci := ci) (fs := fs) (C := C) (T := T) (N := N) hexec hb hts hin ty hty hown hcl hinst hini hK hP hD hS hA hc hfs hcells hslots hdg (fun q H1 hP1 hD1 hS1 => ?_)
  have hq := po_new hD1
  rw [po_push hq] at hP1 hD1
  exact kk q H1 hq hP1 hD1 hS1
end PN
