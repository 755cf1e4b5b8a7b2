/-! the arrays' classes -/
abbrev tyA (cA : Nat → ClassId) : List (ClassId × FieldType) := [(cA 20, .int), (cA 21, .byte), (cA 22, .boolean), (cA 24, .object RX10), (cA 25, .object RX1), (cA 26, .object RX5), (cA 27, .object RX2), (cA 28, .object RX4), (cA 29, .object RX0), (cA 23, .long)]
theorem rf_n {C : String} (v : Option Nat) : narrow (.object C) (va_rf v) = va_rf v := by cases v <;> rfl
theorem rf_f {C : String} (v : Option Nat) : fits (.object C) (va_rf v) = true := by cases v <;> rfl
section HQ
variable {p : Program} {l : Launch} {e : Env} {R : Room} {s : State} {m : MethodId} {args : Array Value} {below : List Frame} {meth : Method} {c : Code} {H : Heap} {locs : List Loc} {cells slots : Nat} {Q : State → Prop} {D : va_G} {cl : List vw_C} {tys : List (ClassId × FieldType)} {LP : List Nat} {A : Nat → Prop} {H0 : Heap} {cc : ByteArray} {pc : Nat} {ls : Array Slot} {rest : List Value} {a : Nat}
variable {cA : Nat → ClassId} {k n : Nat → Nat} {I : Nat → Nat → Int32} {F : Nat → Nat → Option Nat} {J : Nat → Nat → Int32} {G : Nat → Nat → Option Nat}
/-- a store of what may be null -/
theorem hg_aastQ (hexec : p.tables.exec = Jvm.exec) (hb : c.code = cc) (hK : va_K D cl tys s) (hP : va_P D cl (po LP (hp cA k n I F J G)) H) (hD : va_D A (po LP (hp cA k n I F J G))) (hS : va_S A H0 H locs) (t0 ci : Nat) {N kd : Nat} {v : Option Nat} {r : vw_C} (ha : a ∈ LP) (hk : k a = kd) (h24 : ¬ kd < 24) (hn : n a = N) (ht : tys[t0]? = some (cA kd, .object r.1)) (hv : ∀ x, v = some x → x ∈ LP ∧ k x = ci) (h20 : ci < 20) (hc : cl[ci]? = some r) {i : Int32} (hin : vp_in i N) (hdg : decode cc pc = .ok (.aastore, 1))
    (kk : ∀ (H1 : Heap) (locs1 : List Loc), va_P D cl (po LP (hp cA k n I F J (up2 G a i.toNatClampNeg v))) H1 → va_D A (po LP (hp cA k n I F J (up2 G a i.toNatClampNeg v))) → va_S A H0 H1 locs1 → W p l e R s m args below meth c H1 locs1 cells slots Q (F0 m (pc + 1) ls rest)) : W p l e R s m args below meth c H locs cells slots Q (F0 m pc ls (va_rf v :: .int i :: .ref a :: rest)) := by
  cases v with
  | none => exact hg_aastN hexec hb hK hP hD hS t0 ha hk h24 hn ht hin hdg kk
  | some x => exact hg_aast hexec hb hK hP hD hS t0 ci ha hk h24 hn ht (hv x rfl).1 (hv x rfl).2 h20 hc hin hdg kk
theorem hg_nonnull (hexec : p.tables.exec = Jvm.exec) (hb : c.code = cc) {v : Option Nat} {off : Int} {tgt : Nat} (hdg : decode cc pc = .ok (.ifnonnull off, 3)) (ht : (pc : Int) + off = (tgt : Int)) (h1 : ∀ x, v = some x → W p l e R s m args below meth c H locs cells slots Q (F0 m tgt ls rest)) (h0 : v = none → W p l e R s m args below meth c H locs cells slots Q (F0 m (pc + 3) ls rest)) : W p l e R s m args below meth c H locs cells slots Q (F0 m pc ls (va_rf v :: rest)) := by
  cases v with
  | none => exact lv_ifnonnullN hexec hb hdg (h0 rfl)
  | some x => exact lv_ifnonnull (tgt := tgt) hexec hb hdg ht (h1 x rfl)
end HQ
