/-! THE LAW'S TWO HEAPS SIDE BY SIDE, AND ITS ONE LONG -/
abbrev lgE (cA : Nat → ClassId) (f : Nat → Int64) : va_E := .inl (cA 23, 1, .inr (.inl f))
abbrev hW (cA : Nat → ClassId) (ao : Nat) (u : (Nat → Int64) × HS) : va_W := (ao, lgE cA u.1) :: wd cA u.2
theorem sp_cons {D : va_G} {cl : List vw_C} {q : Nat × va_E} {ws : va_W} {H : Heap} : va_P D cl (q :: ws) H ↔ va_at D cl q H ∧ va_P D cl ws H :=
  ⟨fun h => ⟨h 0 q rfl, fun k p hk => h (k + 1) p hk⟩, fun h k p hk => by
    cases k with
    | zero => cases hk; exact h.1
    | succ k => exact h.2 k p hk⟩
/-- two worlds have no address in common -/
def Dis (wo w : va_W) : Prop := ∀ (k : Nat) (p : Nat × va_E) (k' : Nat) (p' : Nat × va_E), wo[k]? = some p → w[k']? = some p' → p.1 ≠ p'.1
theorem Dis.symm {wo w : va_W} (h : Dis wo w) : Dis w wo := fun k p k' p' h1 h2 z => h k' p' k p h2 h1 z.symm
theorem sd_cons {A : Nat → Prop} {q : Nat × va_E} {ws : va_W} : va_D A (q :: ws) ↔ A q.1 ∧ va_D A ws ∧ Dis [q] ws := by
  constructor
  · intro h
    refine ⟨h.2 0 q rfl, ⟨fun i j p p' h1 h2 e => ?_, fun k p hk => h.2 (k + 1) p hk⟩, fun k p k' p' h1 h2 e => ?_⟩
    · have := h.1 (i + 1) (j + 1) p p' h1 h2 e
      omega
    · cases k with
      | zero =>
        cases h1
        have := h.1 0 (k' + 1) q p' rfl h2 e
        omega
      | succ k => simp at h1
  · rintro ⟨h1, h2, h3⟩
    refine ⟨fun i j p p' e1 e2 e => ?_, fun k p hk => ?_⟩
    · cases i with
      | zero => cases j with
        | zero => rfl
        | succ j => cases e1; exact absurd e (h3 0 q j p' rfl e2)
      | succ i => cases j with
        | zero => cases e2; exact absurd e.symm (h3 0 q i p rfl e1)
        | succ j => have := h2.1 i j p p' e1 e2 e; omega
    · cases k with
      | zero => cases hk; exact h1
      | succ k => exact h2.2 k p hk
theorem Dis_cons {q : Nat × va_E} {wo w : va_W} : Dis (q :: wo) w ↔ Dis [q] w ∧ Dis wo w := by
  constructor
  · refine fun h => ⟨fun k p k' p' h1 h2 => ?_, fun k p k' p' h1 h2 => h (k + 1) p k' p' h1 h2⟩
    cases k with
    | zero => cases h1; exact h 0 q k' p' rfl h2
    | succ k => simp at h1
  · rintro ⟨h1, h2⟩ k p k' p' e1 e2
    cases k with
    | zero => cases e1; exact h1 0 q k' p' rfl e2
    | succ k => exact h2 k p k' p' e1 e2
/-- what stands beside a call stays -/
theorem sp_after {D : va_G} {wo w0 w1 : va_W} {H H1 : Heap} (hP : va_P D vwCl wo H) (hd : Dis wo w0) (k2 : ∀ q : Nat, q < H.size → ¬ va_A w0 H.size q → H1[q]? = H[q]?) (hD1 : va_D (va_A w0 H.size) w1) : va_P D vwCl wo H1 ∧ Dis wo w1 := by
  have no : ∀ (k : Nat) (p : Nat × va_E), wo[k]? = some p → ¬ va_A w0 H.size p.1 := fun k p hk h => by
    rcases h with ⟨k', e, h⟩ | h
    · exact hd k p k' (p.1, e) hk h rfl
    · exact absurd (hP k p hk).lt (by omega)
  exact ⟨hP.kept (fun k p hk => k2 p.1 (hP k p hk).lt (no k p hk)), fun k p k' p' h1 h2 e => no k p h1 (by rw [e]; exact hD1.2 k' p' h2)⟩
section LR
variable {p : Program} {l : Launch} {e : Env} {R : Room} {s : State} {m : MethodId} {args : Array Value} {below : List Frame} {meth : Method} {c : Code} {H : Heap} {locs : List Loc} {cells slots : Nat} {Q : State → Prop} {pc : Nat} {ls : Array Slot} {rest st0 : List Value} {a : Array Value} {A : Nat → Prop} {D : va_G} {tys : List (ClassId × FieldType)} {w0 wo : va_W} {XC : Nat → Nat → String → State → State → Prop}
theorem l_run {S : Type} {P : Nat → Nat → Int32 → S → Prop} {w1 : S → va_W} (hNX : ∀ mc ms E st t, ¬ XC mc ms E st t) (hr : vy_Run p l e R s m args below meth c H locs cells slots (F0 m pc ls st0) rest (fun mc ms => va_Qi (P mc ms) (fun u => ct_B D (va_A w0 H.size) (w1 u) tys) (va_A w0 H.size) a) XC (va_A w0 H.size))
    (hD0 : va_D A w0) (hPo : va_P D vwCl wo H) (hd : Dis wo w0) (hS : va_S A s.heap H locs) (hA : ∀ q, s.heap.size ≤ q → A q)
    (kk : ∀ (mc ms : Nat) (r : Int32) (u : S) (H1 : Heap) (locs1 : List Loc), P mc ms r u → va_P D vwCl (w1 u) H1 → va_D A (w1 u) → va_P D vwCl wo H1 → Dis wo (w1 u) → va_S A s.heap H1 locs1 → W p l e R s m args below meth c H1 locs1 (cells + mc) (slots + ms) Q (F0 m (pc + 3) ls (.int r :: rest))) : W p l e R s m args below meth c H locs cells slots Q (F0 m pc ls st0) := by
  intro T hT XX
  have hF := pt_free hD0 hS hA
  obtain ⟨mc, ms, h⟩ := hr T hT XX
  rcases h with ⟨v, st₀, t, T', L, h0, X', hL, e1, e2, ⟨⟨r, u, hv, hp, hb⟩, hFr⟩, stp⟩ | ⟨q, st₀, t, T', L, E, ce, h0, X', hL, e1, e2, hx, -⟩
  · cases hv
    obtain ⟨k1, k2, k3⟩ := vx_keep h0 e1 hS (fun q _ h => hF q h) hF hL hFr
    obtain ⟨hP1, -, hD1⟩ := hb
    obtain ⟨s1, s2⟩ := sp_after hPo hd k2 hD1
    obtain ⟨t2, a1, b1⟩ := kk mc ms r u T'.heap (locs ++ L) hp (by rw [e1]; exact hP1) (hD1.weaken (fun _ _ _ h => hF _ h)) s1 s2 k3 T' rfl X'
    exact ⟨t2, stp t2 a1, b1⟩
  · exact absurd hx (hNX _ _ _ _ _)
theorem l_runv {S : Type} {P : Nat → Nat → S → Prop} {w1 : S → va_W} (hNX : ∀ mc ms E st t, ¬ XC mc ms E st t) (hr : vy_Run p l e R s m args below meth c H locs cells slots (F0 m pc ls st0) rest (fun mc ms => va_Qv (P mc ms) (fun u => ct_B D (va_A w0 H.size) (w1 u) tys) (va_A w0 H.size) a) XC (va_A w0 H.size))
    (hD0 : va_D A w0) (hPo : va_P D vwCl wo H) (hd : Dis wo w0) (hS : va_S A s.heap H locs) (hA : ∀ q, s.heap.size ≤ q → A q)
    (kk : ∀ (mc ms : Nat) (u : S) (H1 : Heap) (locs1 : List Loc), P mc ms u → va_P D vwCl (w1 u) H1 → va_D A (w1 u) → va_P D vwCl wo H1 → Dis wo (w1 u) → va_S A s.heap H1 locs1 → W p l e R s m args below meth c H1 locs1 (cells + mc) (slots + ms) Q (F0 m (pc + 3) ls rest)) : W p l e R s m args below meth c H locs cells slots Q (F0 m pc ls st0) := by
  intro T hT XX
  have hF := pt_free hD0 hS hA
  obtain ⟨mc, ms, h⟩ := hr T hT XX
  rcases h with ⟨v, st₀, t, T', L, h0, X', hL, e1, e2, ⟨⟨u, hv, hp, hb⟩, hFr⟩, stp⟩ | ⟨q, st₀, t, T', L, E, ce, h0, X', hL, e1, e2, hx, -⟩
  · cases hv
    obtain ⟨k1, k2, k3⟩ := vx_keep h0 e1 hS (fun q _ h => hF q h) hF hL hFr
    obtain ⟨hP1, -, hD1⟩ := hb
    obtain ⟨s1, s2⟩ := sp_after hPo hd k2 hD1
    obtain ⟨t2, a1, b1⟩ := kk mc ms u T'.heap (locs ++ L) hp (by rw [e1]; exact hP1) (hD1.weaken (fun _ _ _ h => hF _ h)) s1 s2 k3 T' rfl X'
    exact ⟨t2, stp t2 a1, b1⟩
  · exact absurd hx (hNX _ _ _ _ _)
/-- a call of the class in a helper: it returns, or what it throws comes to the table -/
theorem h_run {cA : Nat → ClassId} {ao : Nat} {f : Nat → Int64} {x : HS} {Q1 : Int32 → HS → Prop} {X1 : String → HS → Prop} (hr : vy_Run p l e R s m args below meth c H locs cells slots (F0 m pc ls st0) rest (fun mc ms => yQi D cA (va_A (wd cA x) H.size) x.c x.z Q1 mc ms a) (yX D cA (va_A (wd cA x) H.size) x.c x.z X1) (va_A (wd cA x) H.size))
    (hP : va_P D vwCl (hW cA ao (f, x)) H) (hD : va_D A (hW cA ao (f, x))) (hS : va_S A s.heap H locs) (hA : ∀ q, s.heap.size ≤ q → A q)
    (kx : ∀ (mc ms : Nat) (E : String) (u : HS) (ce : Cell) (q9 : Addr) (H1 : Heap) (locs1 : List Loc), X1 E u → mc + u.c = x.c → ms + u.z = x.z → va_P D vwCl (hW cA ao (f, u)) H1 → va_D A (hW cA ao (f, u)) → va_S A s.heap H1 locs1 → H1[q9]? = some ce → ce.vm = .none → s.vm.findClass E = some ce.cls → vx_W p l e R s m args below meth c H1 locs1 (cells + mc) (slots + ms) Q (F0 m pc ls rest) q9)
    (kk : ∀ (mc ms : Nat) (r : Int32) (u : HS) (H1 : Heap) (locs1 : List Loc), Q1 r u → mc + u.c = x.c → ms + u.z = x.z → va_P D vwCl (hW cA ao (f, u)) H1 → va_D A (hW cA ao (f, u)) → va_S A s.heap H1 locs1 → W p l e R s m args below meth c H1 locs1 (cells + mc) (slots + ms) Q (F0 m (pc + 3) ls (.int r :: rest))) : W p l e R s m args below meth c H locs cells slots Q (F0 m pc ls st0) := by
  intro T hT XX
  obtain ⟨hA0, hD0, hd0⟩ := sd_cons.mp hD
  have hPo : va_P D vwCl [(ao, lgE cA f)] H := sp_cons.mpr ⟨(sp_cons.mp hP).1, fun k p h => by simp at h⟩
  have hF := pt_free hD0 hS hA
  obtain ⟨mc, ms, h⟩ := hr T hT XX
  rcases h with ⟨v, st₀, t, T', L, h0, X', hL, e1, e2, ⟨⟨r, u, hv, ⟨hp, hc, hz⟩, hb⟩, hFr⟩, stp⟩ | ⟨q, st₀, t, T', L, E, ce, h0, X', hL, e1, e2, ⟨u, -, ⟨⟨hbx, hc, hz⟩, hPx, hDx⟩, hFr⟩, hce, hcv, hcl, stp⟩
  · cases hv
    obtain ⟨k1, k2, k3⟩ := vx_keep h0 e1 hS (fun q _ h => hF q h) hF hL hFr
    obtain ⟨hP1, -, hD1⟩ := hb
    obtain ⟨s1, s2⟩ := sp_after hPo hd0 k2 hD1
    obtain ⟨t2, a1, b1⟩ := kk mc ms r u T'.heap (locs ++ L) hp hc hz (sp_cons.mpr ⟨(sp_cons.mp s1).1, by rw [e1]; exact hP1⟩) (sd_cons.mpr ⟨hA0, hD1.weaken (fun _ _ _ h => hF _ h), s2⟩) k3 T' rfl X'
    exact ⟨t2, stp t2 a1, b1⟩
  · obtain ⟨k1, k2, k3⟩ := vx_keep h0 e1 hS (fun q _ h => hF q h) hF hL hFr
    obtain ⟨s1, s2⟩ := sp_after hPo hd0 k2 hDx
    obtain ⟨t2, a1, b1⟩ := kx mc ms E u ce q T'.heap (locs ++ L) hbx hc hz (sp_cons.mpr ⟨(sp_cons.mp s1).1, by rw [e1]; exact hPx⟩) (sd_cons.mpr ⟨hA0, hDx.weaken (fun _ _ _ h => hF _ h), s2⟩) k3 (by rw [e1]; exact hce) hcv hcl T' rfl X'
    exact ⟨t2, stp.trans a1, b1⟩
end LR
/-- what a helper of the law does: QH the number that it answers, the long, the class's heap -/
def hQ (D : va_G) (cA : Nat → ClassId) (ao : Nat) (A : Nat → Prop) (c z : Nat) (QH : Int32 → (Nat → Int64) → HS → Prop) : Nat → Nat → Array Value → State → Outcome → State → Prop := fun mc ms => va_Qi (fun r (u : (Nat → Int64) × HS) => QH r u.1 u.2 ∧ mc + u.2.c = c ∧ ms + u.2.z = z) (fun u => ct_B D A (hW cA ao u) (tyA cA)) A
def HY (l : Launch) (y : MethodName) (ws : List Cond) (fr lo9 : Nat) (D : va_G) (cA : Nat → ClassId) (ao : Nat) (f : Nat → Int64) (As : List LV) (x : HS) (QH : Int32 → (Nat → Int64) → HS → Prop) : Prop := ∀ sz, vy_Met l y ws (yRm fr lo9 x) (va_Pc (As.map LV.v) (ct_P D (hW cA ao (f, x)) (tyA cA) sz)) (hQ D cA ao (va_A (hW cA ao (f, x)) sz) x.c x.z QH) (fun _ _ _ _ _ => False) (va_A (hW cA ao (f, x)) sz)
/-- a helper's end -/
def hEnd (D : va_G) (cA : Nat → ClassId) (ao sz : Nat) (f : Nat → Int64) (x : HS) (QH : Int32 → (Nat → Int64) → HS → Prop) (below : List Frame) (args : Array Value) (s : State) : State → Prop := fun t => ∃ o, t.status = .running ∧ Ended t below o ∧ vy_Q (hQ D cA ao (va_A (hW cA ao (f, x)) sz) x.c x.z QH) (fun _ _ _ _ _ => False) (va_A (hW cA ao (f, x)) sz) args s o t
theorem HY.of {l : Launch} {y : MethodName} {ws ws' : List Cond} {fr lo9 : Nat} {D : va_G} {cA : Nat → ClassId} {ao : Nat} {f : Nat → Int64} {As : List LV} {x : HS} {QH : Int32 → (Nat → Int64) → HS → Prop} {cc : ByteArray} {maxL : Nat} {hh : List (Nat × Nat × Nat × Nat)} (hy : plainName y.cls = true) (hw : ws = Cond.codeWith y cc maxL (some .int) hh :: ws') (hn : Nat.ble As.length maxL = true)
    (body : ∀ (p : Program) (e : Env) (s : State) (m : MethodId) (args : Array Value) (below : List Frame) (meth : Method) (c : Code) (A : Nat → Prop) (ls : Array Slot), p.tables.exec = Jvm.exec → c.code = cc → c.maxLocals = maxL → s.vm.findClass y.cls = some m.cls → (∀ w ∈ ws, w.before args s = true) → meth.sig.returnType = some .int → meth.locks = false → c.exceptionTable.toList = tableOf hh → va_P D vwCl (hW cA ao (f, x)) s.heap → va_D A (hW cA ao (f, x)) → va_K D vwCl (tyA cA) s → (∀ q, s.heap.size ≤ q → A q) → tx_St A s → lv_has ls maxL (lvM (lvN 0 As)) → A = va_A (hW cA ao (f, x)) s.heap.size →
      W p l e (yRm fr lo9 x) s m args below meth c s.heap [] 0 0 (hEnd D cA ao s.heap.size f x QH below args s) (F0 m 0 ls [])) : HY l y ws fr lo9 D cA ao f As x QH := by
  intro sz
  refine MetFree.of_bodyS (code := cc) (maxLocals := maxL) (ret := some .int) hy ?_ ?_
  · intro args s m h hn
    obtain ⟨m9, meth, c, hn9, h1, h2, h3, h4, -, h5, h6, -⟩ := Cond.codeWith_spec (atoms_spec (ws := ws) h _ (by rw [hw]; exact List.mem_cons_self))
    cases hn.symm.trans hn9
    exact ⟨meth, c, h1, h2, h3, h4, h5, h6⟩
  · intro p e s m args below meth c s₁ B hml hP _
    have hh0 : s₁.heap = s.heap := by rw [B.state]; rfl
    have hts := atoms_spec (ws := ws) B.pre
    have htb : c.exceptionTable.toList = tableOf hh := vx_table (x := y) B (hts _ (by rw [hw]; exact List.mem_cons_self))
    obtain ⟨rfl, hsz, hP, hK, hD0, hZ⟩ := hP
    subst hsz
    have hD := hD0.self (sz := s.heap.size)
    have hl0 := lv_entry (As.map LV.v) (n := maxL) (by rw [lq_sl]; exact Nat.le_of_ble_eq_true hn)
    rw [lq_args] at hl0
    have hk := body p e s m (As.map LV.v).toArray below meth c _ _ B.exec B.bytes hml (findClass_of_methodNamed B.named) hts B.returns B.notSynchronized htb hP hD hK (fun q h => Or.inr h) hZ hl0 rfl
    have hk3 : W p l e (yRm fr lo9 x) s m (As.map LV.v).toArray below meth c s.heap [] 0 0 (hEnd D cA ao s.heap.size f x QH below (As.map LV.v).toArray s) (entryFrame m (As.map LV.v).toArray maxL) := by
      rw [lg_entry_eq]; exact hk
    obtain ⟨t, a1, o, b1, b2, b3⟩ := hk3 s₁ hh0 (Stand.of_body B)
    exact ⟨t, o, a1, b1, b2, b3⟩
section LH
variable {p : Program} {l : Launch} {e : Env} {R : Room} {s : State} {m : MethodId} {args : Array Value} {below : List Frame} {meth : Method} {c : Code} {H : Heap} {locs : List Loc} {cells slots : Nat} {pc : Nat} {ls : Array Slot} {A : Nat → Prop} {D : va_G} {cA : Nat → ClassId} {ao : Nat} {f f1 : Nat → Int64} {x u : HS} {QH : Int32 → (Nat → Int64) → HS → Prop} {cc : ByteArray}
theorem h_iret (hx : p.tables.exec = Jvm.exec) (hb : c.code = cc) (hr : meth.sig.returnType = some .int) (hlk : meth.locks = false) (hAe : A = va_A (hW cA ao (f, x)) s.heap.size) {v : Int32} (hq : QH v f1 u) (hc : cells + u.c = x.c) (hz : slots + u.z = x.z) (hP : va_P D vwCl (hW cA ao (f1, u)) H) (hD : va_D A (hW cA ao (f1, u))) (hK : va_K D vwCl (tyA cA) s) (hS : va_S A s.heap H locs) (d : decode cc pc = .ok (.ireturn, 1)) : W p l e R s m args below meth c H locs cells slots (hEnd D cA ao s.heap.size f x QH below args s) (F0 m pc ls [.int v]) := by
  intro T hT XX
  subst hAe
  obtain ⟨t, a, o, b1, b2, b3, b4⟩ := W.iret (Qc := hQ D cA ao (va_A (hW cA ao (f, x)) s.heap.size) x.c x.z QH cells slots) (free := va_A (hW cA ao (f, x)) s.heap.size) (v := v) hx hb hr (fun t ht hW9 => ⟨⟨v, (f1, u), rfl, ⟨hq, hc, hz⟩, by rw [ht]; exact hP, va_K.moved hW9.alike hK, hD⟩, hS.F ht⟩) hS.2.2 d hlk T hT XX
  exact ⟨t, a, o, b1, b2, cells, slots, Or.inl ⟨b3, b4⟩⟩
/-- the answer goes into the long -/
theorem h_out (hx : p.tables.exec = Jvm.exec) (hb : c.code = cc) {Q : State → Prop} (hK : va_K D vwCl (tyA cA) s) (hP : va_P D vwCl (hW cA ao (f, x)) H) (hD : va_D A (hW cA ao (f, x))) (hS : va_S A s.heap H locs) {r : Int32} {pc1 : Nat} (d1 : decode cc pc = .ok (.i2l, 1)) (hp : pc + 1 = pc1) (d2 : decode cc pc1 = .ok (.lastore, 1))
    (kk : ∀ (H1 : Heap) (locs1 : List Loc), va_P D vwCl (hW cA ao (fun i => if i = 0 then r.toInt64 else f i, x)) H1 → va_D A (hW cA ao (fun i => if i = 0 then r.toInt64 else f i, x)) → va_S A s.heap H1 locs1 → W p l e R s m args below meth c H1 locs1 cells slots Q (F0 m (pc1 + 1) ls [])) : W p l e R s m args below meth c H locs cells slots Q (F0 m pc ls [.int r, .int 0, .ref ao]) := by
  subst hp
  refine lv_i2l (v := r.toInt64) hx hb d1 rfl ?_
  refine va_last (n := 1) (f := f) hx hb hK hP hD hS 0 9 rfl rfl (by unfold vp_in; decide) d2 (fun H1 locs1 h1 h2 h3 => ?_)
  have e : vp_updL f (0 : Int32).toNatClampNeg r.toInt64 = fun i => if i = 0 then r.toInt64 else f i := by
    funext i
    show (if i = (0 : Int32).toNatClampNeg then _ else _) = _
    rw [show (0 : Int32).toNatClampNeg = 0 from by decide]
  rw [e] at h1 h2
  exact kk H1 locs1 h1 h2 h3
end LH
