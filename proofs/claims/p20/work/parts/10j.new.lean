/-! WHAT IS MADE NEW, over the heap of four maps -/
section HN0
variable {cA : Nat → ClassId} {k n : Nat → Nat} {I : Nat → Nat → Int32} {F : Nat → Nat → Option Nat} {J : Nat → Nat → Int32} {G : Nat → Nat → Option Nat} {q : Nat}
theorem hp_newO {ci : Nat} (h20 : ci < 20) : va_up (hp cA k n I F J G) q (.inr (ci, hpFs ci (fun _ => 0) (fun _ => none))) = hp cA (va_up k q ci) n (va_up I q (fun _ => 0)) (va_up F q (fun _ => none)) J G := by
  funext b
  by_cases hb : b = q
  · subst hb
    rw [va_up_self, hp_o (by rw [va_up_self]; exact h20), va_up_self, va_up_self, va_up_self]
  · rw [va_up_ne _ _ hb]
    simp only [hp, va_up_ne _ _ hb]
theorem hp_newJ {kd N : Nat} (h20 : ¬ kd < 20) (h24 : kd < 23) : va_up (hp cA k n I F J G) q (.inl (cA kd, N, .inl (fun _ => 0))) = hp cA (va_up k q kd) (va_up n q N) I F (va_up J q (fun _ => 0)) G := by
  funext b
  by_cases hb : b = q
  · subst hb
    rw [va_up_self, hp_j (by rw [va_up_self]; exact h20) (by rw [va_up_self]; exact h24), va_up_self, va_up_self, va_up_self]
  · rw [va_up_ne _ _ hb]
    simp only [hp, va_up_ne _ _ hb]
theorem hp_newG {kd N : Nat} (h24 : ¬ kd < 24) : va_up (hp cA k n I F J G) q (.inl (cA kd, N, .inr (.inr (.inr (.inr (fun _ => none)))))) = hp cA (va_up k q kd) (va_up n q N) I F J (va_up G q (fun _ => none)) := by
  funext b
  by_cases hb : b = q
  · subst hb
    rw [va_up_self, hp_g (by rw [va_up_self]; exact h24), va_up_self, va_up_self, va_up_self]
  · rw [va_up_ne _ _ hb]
    simp only [hp, va_up_ne _ _ hb]
end HN0
section HN
variable {p : Program} {l : Launch} {e : Env} {R : Room} {s : State} {m : MethodId} {args : Array Value} {below : List Frame} {meth : Method} {c : Code} {H : Heap} {locs : List Loc} {cells slots : Nat} {Q : State → Prop} {D : va_G} {cl : List vw_C} {tys : List (ClassId × FieldType)} {LP : List Nat} {A : Nat → Prop} {H0 : Heap} {cc : ByteArray} {pc : Nat} {ls : Array Slot} {rest : List Value} {a : Nat}
variable {cA : Nat → ClassId} {k n : Nat → Nat} {I : Nat → Nat → Int32} {F : Nat → Nat → Option Nat} {J : Nat → Nat → Int32} {G : Nat → Nat → Option Nat}
theorem hg_new {own C : String} {T : u_T} {N ci index : Nat} {Ts : List Cond} (hexec : p.tables.exec = Jvm.exec) (hb : c.code = cc) (hts : ∀ w ∈ Ts, w.before args s = true) (hin : ∀ w ∈ u_ws C T N, w ∈ Ts) (ty : Nat → FieldType) (hty : ∀ k, k < N → parseFieldDescriptor (T k).2.2.1 = some (ty k)) (hown : s.vm.findClass own = some m.cls) (hcl : (Cond.classLink own index C).before args s = true) (hinst : (Cond.instantiable C N).before args s = true) (hini : (Cond.initialized C).before args s = true)
    (hK : va_K D cl tys s) (hP : va_P D cl (po LP (hp cA k n I F J G)) H) (hD : va_D A (po LP (hp cA k n I F J G))) (hS : va_S A H0 H locs) (hA : ∀ q, H0.size ≤ q → A q) (hc : cl[ci]? = some (C, T, N)) (h20 : ci < 20) (hfs : ∀ j, j < N → defaultValue (ty j) = vp_V (hpFs ci (fun _ => 0) (fun _ => none)) j) (hcells : cells + 1 ≤ R.cells) (hslots : slots + N ≤ R.slots) (hdg : decode cc pc = .ok (.new index, 3))
    (kk : ∀ (q : Nat) (H1 : Heap), q ∉ LP → va_P D cl (po (LP ++ [q]) (hp cA (va_up k q ci) n (va_up I q (fun _ => 0)) (va_up F q (fun _ => none)) J G)) H1 → va_D A (po (LP ++ [q]) (hp cA (va_up k q ci) n (va_up I q (fun _ => 0)) (va_up F q (fun _ => none)) J G)) → va_S A H0 H1 locs →
      W p l e R s m args below meth c H1 locs (cells + 1) (slots + N) Q (F0 m (pc + 3) ls (.ref q :: rest))) : W p l e R s m args below meth c H locs cells slots Q (F0 m pc ls rest) := by
  refine pg_new (ci := ci) (C := C) (T := T) (N := N) hexec hb hts hin ty hty hown hcl hinst hini hK hP hD hS hA hc hfs hcells hslots hdg (fun q H1 hq hP1 hD1 hS1 => ?_)
  rw [hp_newO h20] at hP1 hD1
  exact kk q H1 hq hP1 hD1 hS1
theorem hg_newJ (hexec : p.tables.exec = Jvm.exec) (hb : c.code = cc) {atype : ArrayType} (harr : (Cond.arrayClass (newarray.typeOf atype)).before args s = true) {ty : FieldType} (hty : newarray.typeOf atype = ty) (hK : va_K D cl tys s) (hP : va_P D cl (po LP (hp cA k n I F J G)) H) (hD : va_D A (po LP (hp cA k n I F J G))) (hS : va_S A H0 H locs) (hA : ∀ q, H0.size ≤ q → A q) (t0 : Nat) {kd : Nat} (h20 : ¬ kd < 20) (h24 : kd < 23) (ht : tys[t0]? = some (cA kd, ty))
    {x : Int32} {N : Nat} (ha : ∀ cA : ClassId, vp_cell cA (N, .inl (fun _ => 0)) = arrV cA N (fun _ => defaultValue ty)) (hn : ¬ x < 0) (hN : x.toNatClampNeg = N) (hbytes : N * componentBytes ty ≤ 536870912) (hcells : cells + 1 ≤ R.cells) (hslots : slots + N ≤ R.slots) (hdg : decode cc pc = .ok (.newarray atype, 2))
    (kk : ∀ (q : Nat) (H1 : Heap), q ∉ LP → va_P D cl (po (LP ++ [q]) (hp cA (va_up k q kd) (va_up n q N) I F (va_up J q (fun _ => 0)) G)) H1 → va_D A (po (LP ++ [q]) (hp cA (va_up k q kd) (va_up n q N) I F (va_up J q (fun _ => 0)) G)) → va_S A H0 H1 locs →
      W p l e R s m args below meth c H1 locs (cells + 1) (slots + N) Q (F0 m (pc + 2) ls (.ref q :: rest))) : W p l e R s m args below meth c H locs cells slots Q (F0 m pc ls (.int x :: rest)) := by
  refine pg_newa (atype := atype) (a0 := (N, .inl (fun _ => 0))) hexec hb harr hty hK hP hD hS hA t0 ht ha hn hN hbytes hcells hslots hdg (fun q H1 hq hP1 hD1 hS1 => ?_)
  rw [hp_newJ h20 h24] at hP1 hD1
  exact kk q H1 hq hP1 hD1 hS1
theorem hg_newG (hexec : p.tables.exec = Jvm.exec) (hb : c.code = cc) {own C : String} {index : Nat} (hown : s.vm.findClass own = some m.cls) (hclink : (Cond.classLink own index C).before args s = true) (hover : va_AO C s) (hK : va_K D cl tys s) (hP : va_P D cl (po LP (hp cA k n I F J G)) H) (hD : va_D A (po LP (hp cA k n I F J G))) (hS : va_S A H0 H locs) (hA : ∀ q, H0.size ≤ q → A q) (t0 : Nat) {kd : Nat} (h24 : ¬ kd < 24) (ht : tys[t0]? = some (cA kd, .object C))
    {x : Int32} {N : Nat} (hn : ¬ x < 0) (hN : x.toNatClampNeg = N) (hbytes : N * 4 ≤ 536870912) (hcells : cells + 1 ≤ R.cells) (hslots : slots + N ≤ R.slots) (hdg : decode cc pc = .ok (.anewarray index, 3))
    (kk : ∀ (q : Nat) (H1 : Heap), q ∉ LP → va_P D cl (po (LP ++ [q]) (hp cA (va_up k q kd) (va_up n q N) I F J (va_up G q (fun _ => none)))) H1 → va_D A (po (LP ++ [q]) (hp cA (va_up k q kd) (va_up n q N) I F J (va_up G q (fun _ => none)))) → va_S A H0 H1 locs →
      W p l e R s m args below meth c H1 locs (cells + 1) (slots + N) Q (F0 m (pc + 3) ls (.ref q :: rest))) : W p l e R s m args below meth c H locs cells slots Q (F0 m pc ls (.int x :: rest)) := by
  refine pg_newq (C := C) hexec hb hown hclink hover hK hP hD hS hA t0 ht hn hN hbytes hcells hslots hdg (fun q H1 hq hP1 hD1 hS1 => ?_)
  rw [hp_newG h24] at hP1 hD1
  exact kk q H1 hq hP1 hD1 hS1
end HN
