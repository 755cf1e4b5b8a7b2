/-! CALLS, ENDS AND THROWS, and a method's contract out of its words -/
def yQi (D : va_G) (cA : Nat → ClassId) (A : Nat → Prop) (c z : Nat) (Q : Int32 → HS → Prop) : Nat → Nat → Array Value → State → Outcome → State → Prop := fun mc ms => va_Qi (fun r u => Q r u ∧ mc + u.c = c ∧ ms + u.z = z) (fun u => ct_B D A (wd cA u) (tyA cA)) A
def yQv (D : va_G) (cA : Nat → ClassId) (A : Nat → Prop) (c z : Nat) (Q : HS → Prop) : Nat → Nat → Array Value → State → Outcome → State → Prop := fun mc ms => va_Qv (fun u => Q u ∧ mc + u.c = c ∧ ms + u.z = z) (fun u => ct_B D A (wd cA u) (tyA cA)) A
def yQq (D : va_G) (cA : Nat → ClassId) (A : Nat → Prop) (c z : Nat) (Q : Option Nat → HS → Prop) : Nat → Nat → Array Value → State → Outcome → State → Prop := fun mc ms => va_Qq (fun r u => Q r u ∧ mc + u.c = c ∧ ms + u.z = z) (fun u => ct_B D A (wd cA u) (tyA cA)) A
def yX (D : va_G) (cA : Nat → ClassId) (A : Nat → Prop) (c z : Nat) (X : String → HS → Prop) : Nat → Nat → String → State → State → Prop := fun mc ms => px_X D (fun E u => X E u ∧ mc + u.c = c ∧ ms + u.z = z) (wd cA) A
abbrev yRm (fr lo : Nat) (x : HS) : Room := { frames := fr, cells := x.c, slots := x.z, locals := lo }
def YI (l : Launch) (y : MethodName) (ws : List Cond) (fr lo : Nat) (D : va_G) (cA : Nat → ClassId) (As : List LV) (x : HS) (Q : Int32 → HS → Prop) (X : String → HS → Prop) : Prop := ∀ sz, vy_Met l y ws (yRm fr lo x) (va_Pc (As.map LV.v) (ct_P D (wd cA x) (tyA cA) sz)) (yQi D cA (va_A (wd cA x) sz) x.c x.z Q) (yX D cA (va_A (wd cA x) sz) x.c x.z X) (va_A (wd cA x) sz)
def YV (l : Launch) (y : MethodName) (ws : List Cond) (fr lo : Nat) (D : va_G) (cA : Nat → ClassId) (As : List LV) (x : HS) (Q : HS → Prop) (X : String → HS → Prop) : Prop := ∀ sz, vy_Met l y ws (yRm fr lo x) (va_Pc (As.map LV.v) (ct_P D (wd cA x) (tyA cA) sz)) (yQv D cA (va_A (wd cA x) sz) x.c x.z Q) (yX D cA (va_A (wd cA x) sz) x.c x.z X) (va_A (wd cA x) sz)
def YQ (l : Launch) (y : MethodName) (ws : List Cond) (fr lo : Nat) (D : va_G) (cA : Nat → ClassId) (As : List LV) (x : HS) (Q : Option Nat → HS → Prop) (X : String → HS → Prop) : Prop := ∀ sz, vy_Met l y ws (yRm fr lo x) (va_Pc (As.map LV.v) (ct_P D (wd cA x) (tyA cA) sz)) (yQq D cA (va_A (wd cA x) sz) x.c x.z Q) (yX D cA (va_A (wd cA x) sz) x.c x.z X) (va_A (wd cA x) sz)
/-- what a return owes -/
def FrI (g : Cx) (Q : Int32 → HS → Prop) : Prop := ∀ mc ms t, MQ g.below (yQi g.D g.cA g.A g.R.cells g.R.slots Q mc ms) g.args g.s mc ms g.A t → g.Q t
def FrV (g : Cx) (Q : HS → Prop) : Prop := ∀ mc ms t, MQ g.below (yQv g.D g.cA g.A g.R.cells g.R.slots Q mc ms) g.args g.s mc ms g.A t → g.Q t
def FrQ (g : Cx) (Q : Option Nat → HS → Prop) : Prop := ∀ mc ms t, MQ g.below (yQq g.D g.cA g.A g.R.cells g.R.slots Q mc ms) g.args g.s mc ms g.A t → g.Q t
section KCA
variable {g : Cx} {X : String → HS → Prop} {cc : ByteArray} {nL pc : Nat} {lv : List (Nat × LV)} {st : List LV} {x : HS}
theorem k_iret (o : CxOk g X) (hb : g.c.code = cc) {Q : Int32 → HS → Prop} (hr : g.meth.sig.returnType = some .int) (fr : FrI g Q) (d : decode cc pc = .ok (.ireturn, 1)) {v : Int32} (h : Q v x) : KW g nL pc lv [.i v] x := by
  intro H locs cells slots ls hs hl T hT XX
  obtain ⟨hP, hD, hS, h1, h2⟩ := hs
  obtain ⟨t, a, b⟩ := W.iret (Qc := yQi g.D g.cA g.A g.R.cells g.R.slots Q cells slots) (free := g.A) (v := v) o.hx hb hr (fun t ht hW => ⟨⟨v, x, rfl, ⟨h, h1, h2⟩, by rw [ht]; exact hP, va_K.moved hW.alike o.hK, hD⟩, hS.F ht⟩) hS.2.2 d o.hlk T hT XX
  exact ⟨t, a, fr _ _ _ b⟩
theorem k_zret (o : CxOk g X) (hb : g.c.code = cc) {Q : Int32 → HS → Prop} (hr : g.meth.sig.returnType = some .boolean) (fr : FrI g Q) (d : decode cc pc = .ok (.ireturn, 1)) {v : Int32} (h : wBit v (Q v x)) : KW g nL pc lv [.i v] x := by
  intro H locs cells slots ls hs hl T hT XX
  obtain ⟨hP, hD, hS, h1, h2⟩ := hs
  have hn : narrow .boolean (.int v) = .int v := by rcases h.1 with rfl | rfl <;> decide
  obtain ⟨t, a, b⟩ := W.zret (Qc := yQi g.D g.cA g.A g.R.cells g.R.slots Q cells slots) (free := g.A) (v := v) o.hx hb hr hn (fun t ht hW => ⟨⟨v, x, rfl, ⟨h.2, h1, h2⟩, by rw [ht]; exact hP, va_K.moved hW.alike o.hK, hD⟩, hS.F ht⟩) hS.2.2 d o.hlk T hT XX
  exact ⟨t, a, fr _ _ _ b⟩
theorem k_vret (o : CxOk g X) (hb : g.c.code = cc) {Q : HS → Prop} (hr : g.meth.sig.returnType = none) (fr : FrV g Q) (d : decode cc pc = .ok (.return_, 1)) (h : Q x) : KW g nL pc lv [] x := by
  intro H locs cells slots ls hs hl T hT XX
  obtain ⟨hP, hD, hS, h1, h2⟩ := hs
  obtain ⟨t, a, b⟩ := W.vret (Qc := yQv g.D g.cA g.A g.R.cells g.R.slots Q cells slots) (free := g.A) o.hx hb hr (fun t ht hW => ⟨⟨x, rfl, ⟨h, h1, h2⟩, by rw [ht]; exact hP, va_K.moved hW.alike o.hK, hD⟩, hS.F ht⟩) hS.2.2 d o.hlk T hT XX
  exact ⟨t, a, fr _ _ _ b⟩
theorem k_aret (o : CxOk g X) (hb : g.c.code = cc) {Q : Option Nat → HS → Prop} {rt : FieldType} (hr : g.meth.sig.returnType = some rt) (hrt : (∃ n, rt = .object n) ∨ ∃ t, rt = .array t) (fr : FrQ g Q) (d : decode cc pc = .ok (.areturn, 1)) {r : Option Nat} (h : Q r x) : KW g nL pc lv [.q r] x := by
  intro H locs cells slots ls hs hl T hT XX
  obtain ⟨hP, hD, hS, h1, h2⟩ := hs
  obtain ⟨t, a, b⟩ := W.aret (Qc := yQq g.D g.cA g.A g.R.cells g.R.slots Q cells slots) (free := g.A) (v := va_rf r) o.hx hb hr hrt (va_rf_or r) (fun t ht hW => ⟨⟨r, x, rfl, ⟨h, h1, h2⟩, by rw [ht]; exact hP, va_K.moved hW.alike o.hK, hD⟩, hS.F ht⟩) hS.2.2 d o.hlk T hT XX
  exact ⟨t, a, fr _ _ _ b⟩
/-- a throw begins: the end of 'throw new E(text)' as the kit's rows tell it -/
theorem k_throw {E : String} (o : CxOk g X) (hw : ∀ (H : Heap) (locs : List Loc) (cells slots mc ms : Nat) (ls : Array Slot) (XC : String → State → State → Prop), ls.size = nL → va_S g.A g.s.heap H locs → cells + 1 ≤ g.R.cells → slots + 6 ≤ g.R.slots → cells + 1 ≤ mc → slots + 6 ≤ ms → (∀ t : State, g.s.vm.Alike t.vm → H.size ≤ t.heap.size → (∀ q : Nat, q < H.size → t.heap[q]? = H[q]?) → XC E g.s t) → W g.p g.l g.e g.R g.s g.m g.args g.below g.meth g.c H locs cells slots (vx_MQ g.below (fun _ _ _ _ => False) XC g.args g.s mc ms g.A) (F0 g.m pc ls (st.map LV.v))) (h : wThrow x E X) : KW g nL pc lv st x := by
  intro H locs cells slots ls hs hl T hT XX
  obtain ⟨hP, hD, hS, h1, h2⟩ := hs
  obtain ⟨hc, hz, hX⟩ := h
  obtain ⟨t, a, b⟩ := hw H locs cells slots (cells + 1) (slots + 6) ls (px_X g.D (fun E u => X E u ∧ (cells + 1) + u.c = g.R.cells ∧ (slots + 6) + u.z = g.R.slots) (wd g.cA) g.A) hl.1 hS (by omega) (by omega) (Nat.le_refl _) (Nat.le_refl _) (fun t _ q1 q2 => px_x (x.wC (x.c - 1) (x.z - 6)) ⟨hX, by show cells + 1 + (x.c - 1) = _; omega, by show slots + 6 + (x.z - 6) = _; omega⟩ hP hD hS q1 q2) T hT XX
  exact ⟨t, a, o.hX _ _ _ b⟩
/-- what comes behind a call -/
theorem k_out (o : CxOk g X) {E : String} {u : HS} {ce : Cell} {q : Addr} {H : Heap} {locs : List Loc} {cells slots : Nat} {ls : Array Slot} {rest : List Value} (hX : X E u) (hs : KS g H locs cells slots u) (hce : H[q]? = some ce) (hcv : ce.vm = .none) (hcl : g.s.vm.findClass E = some ce.cls) : vx_W g.p g.l g.e g.R g.s g.m g.args g.below g.meth g.c H locs cells slots g.Q (F0 g.m pc ls rest) q := by
  intro T hT XX
  obtain ⟨hP, hD, hS, h1, h2⟩ := hs
  obtain ⟨t, a, b⟩ := vx_out (Qc := fun _ _ _ _ => False) (XC := px_X g.D (fun E u => X E u ∧ cells + u.c = g.R.cells ∧ slots + u.z = g.R.slots) (wd g.cA) g.A) (free := g.A) (mc := cells) (ms := slots) (fun z h => (o.htb z h).elim) o.hlk hce hcv hcl (fun t ht _ => px_xo u ⟨hX, h1, h2⟩ hP hD hS ht) hS.2.2 (Nat.le_refl _) (Nat.le_refl _) T hT XX
  exact ⟨t, a, o.hX _ _ _ b⟩
abbrev vyR (g : Cx) (H : Heap) (locs : List Loc) (cells slots : Nat) (f : JFrame) (rest : List Value) (Qa : Nat → Nat → State → Outcome → State → Prop) (XC : Nat → Nat → String → State → State → Prop) (free : Addr → Prop) : Prop := vy_Run g.p g.l g.e g.R g.s g.m g.args g.below g.meth g.c H locs cells slots f rest Qa XC free
theorem k_free {H : Heap} {locs : List Loc} {cells slots : Nat} (o : CxOk g X) (hs : KS g H locs cells slots x) : ∀ q, va_A (wd g.cA x) H.size q → g.A q := pt_free hs.2.1 hs.2.2.1 o.hA
theorem k_run_i (o : CxOk g X) {X1 : String → HS → Prop} (hX1 : ∀ E u, X1 E u → X E u) {Q : Int32 → HS → Prop} {a : Array Value} {st0 : List LV} (hr : ∀ (H : Heap) (locs : List Loc) (cells slots : Nat) (ls : Array Slot), KS g H locs cells slots x → lq_has ls nL lv → vyR g H locs cells slots (F0 g.m pc ls (st0.map LV.v)) (st.map LV.v) (fun mc ms => yQi g.D g.cA (va_A (wd g.cA x) H.size) x.c x.z Q mc ms a) (yX g.D g.cA (va_A (wd g.cA x) H.size) x.c x.z X1) (va_A (wd g.cA x) H.size)) (kk : ∀ v y, Q v y → KW g nL (pc + 3) lv (.i v :: st) y) : KW g nL pc lv st0 x := by
  intro H locs cells slots ls hs hl T hT XX
  have hF := k_free o hs
  obtain ⟨mc, ms, h⟩ := hr H locs cells slots ls hs hl T hT XX
  obtain ⟨hP, hD, hS, he1, he2⟩ := hs
  rcases h with ⟨v, st₀, t, T', L, h0, X', hL, e1, e2, ⟨⟨r, u, hv, ⟨hp, hc, hz⟩, hb⟩, hFr⟩, stp⟩ | ⟨q, st₀, t, T', L, E, ce, h0, X', hL, e1, e2, ⟨u, -, ⟨⟨hbx, hc, hz⟩, hPx, hDx⟩, hFr⟩, hce, hcv, hcl, stp⟩
  · cases hv
    obtain ⟨k1, k2, k3⟩ := vx_keep h0 e1 hS (fun q _ h => hF q h) hF hL hFr
    obtain ⟨hP1, -, hD1⟩ := hb
    obtain ⟨t2, a1, b1⟩ := kk r u hp T'.heap (locs ++ L) (cells + mc) (slots + ms) ls ⟨by rw [e1]; exact hP1, hD1.weaken (fun _ _ _ h => hF _ h), k3, by omega, by omega⟩ hl T' rfl X'
    exact ⟨t2, stp t2 a1, b1⟩
  · obtain ⟨k1, k2, k3⟩ := vx_keep h0 e1 hS (fun q _ h => hF q h) hF hL hFr
    obtain ⟨t2, a1, b1⟩ := k_out (pc := pc) (ls := ls) (rest := st.map LV.v) o (hX1 E u hbx) (H := T'.heap) (locs := locs ++ L) (cells := cells + mc) (slots := slots + ms) ⟨by rw [e1]; exact hPx, hDx.weaken (fun _ _ _ h => hF _ h), k3, by omega, by omega⟩ (by rw [e1]; exact hce) hcv hcl T' rfl X'
    exact ⟨t2, stp.trans a1, b1⟩
theorem k_run_v (o : CxOk g X) {X1 : String → HS → Prop} (hX1 : ∀ E u, X1 E u → X E u) {Q : HS → Prop} {a : Array Value} {st0 : List LV} (hr : ∀ (H : Heap) (locs : List Loc) (cells slots : Nat) (ls : Array Slot), KS g H locs cells slots x → lq_has ls nL lv → vyR g H locs cells slots (F0 g.m pc ls (st0.map LV.v)) (st.map LV.v) (fun mc ms => yQv g.D g.cA (va_A (wd g.cA x) H.size) x.c x.z Q mc ms a) (yX g.D g.cA (va_A (wd g.cA x) H.size) x.c x.z X1) (va_A (wd g.cA x) H.size)) (kk : ∀ y, Q y → KW g nL (pc + 3) lv st y) : KW g nL pc lv st0 x := by
  intro H locs cells slots ls hs hl T hT XX
  have hF := k_free o hs
  obtain ⟨mc, ms, h⟩ := hr H locs cells slots ls hs hl T hT XX
  obtain ⟨hP, hD, hS, he1, he2⟩ := hs
  rcases h with ⟨v, st₀, t, T', L, h0, X', hL, e1, e2, ⟨⟨u, hv, ⟨hp, hc, hz⟩, hb⟩, hFr⟩, stp⟩ | ⟨q, st₀, t, T', L, E, ce, h0, X', hL, e1, e2, ⟨u, -, ⟨⟨hbx, hc, hz⟩, hPx, hDx⟩, hFr⟩, hce, hcv, hcl, stp⟩
  · cases hv
    obtain ⟨k1, k2, k3⟩ := vx_keep h0 e1 hS (fun q _ h => hF q h) hF hL hFr
    obtain ⟨hP1, -, hD1⟩ := hb
    obtain ⟨t2, a1, b1⟩ := kk u hp T'.heap (locs ++ L) (cells + mc) (slots + ms) ls ⟨by rw [e1]; exact hP1, hD1.weaken (fun _ _ _ h => hF _ h), k3, by omega, by omega⟩ hl T' rfl X'
    exact ⟨t2, stp t2 a1, b1⟩
  · obtain ⟨k1, k2, k3⟩ := vx_keep h0 e1 hS (fun q _ h => hF q h) hF hL hFr
    obtain ⟨t2, a1, b1⟩ := k_out (pc := pc) (ls := ls) (rest := st.map LV.v) o (hX1 E u hbx) (H := T'.heap) (locs := locs ++ L) (cells := cells + mc) (slots := slots + ms) ⟨by rw [e1]; exact hPx, hDx.weaken (fun _ _ _ h => hF _ h), k3, by omega, by omega⟩ (by rw [e1]; exact hce) hcv hcl T' rfl X'
    exact ⟨t2, stp.trans a1, b1⟩
theorem k_run_q (o : CxOk g X) {X1 : String → HS → Prop} (hX1 : ∀ E u, X1 E u → X E u) {Q : Option Nat → HS → Prop} {a : Array Value} {st0 : List LV} (hr : ∀ (H : Heap) (locs : List Loc) (cells slots : Nat) (ls : Array Slot), KS g H locs cells slots x → lq_has ls nL lv → vyR g H locs cells slots (F0 g.m pc ls (st0.map LV.v)) (st.map LV.v) (fun mc ms => yQq g.D g.cA (va_A (wd g.cA x) H.size) x.c x.z Q mc ms a) (yX g.D g.cA (va_A (wd g.cA x) H.size) x.c x.z X1) (va_A (wd g.cA x) H.size)) (kk : ∀ v y, Q v y → KW g nL (pc + 3) lv (.q v :: st) y) : KW g nL pc lv st0 x := by
  intro H locs cells slots ls hs hl T hT XX
  have hF := k_free o hs
  obtain ⟨mc, ms, h⟩ := hr H locs cells slots ls hs hl T hT XX
  obtain ⟨hP, hD, hS, he1, he2⟩ := hs
  rcases h with ⟨v, st₀, t, T', L, h0, X', hL, e1, e2, ⟨⟨r, u, hv, ⟨hp, hc, hz⟩, hb⟩, hFr⟩, stp⟩ | ⟨q, st₀, t, T', L, E, ce, h0, X', hL, e1, e2, ⟨u, -, ⟨⟨hbx, hc, hz⟩, hPx, hDx⟩, hFr⟩, hce, hcv, hcl, stp⟩
  · cases hv
    obtain ⟨k1, k2, k3⟩ := vx_keep h0 e1 hS (fun q _ h => hF q h) hF hL hFr
    obtain ⟨hP1, -, hD1⟩ := hb
    obtain ⟨t2, a1, b1⟩ := kk r u hp T'.heap (locs ++ L) (cells + mc) (slots + ms) ls ⟨by rw [e1]; exact hP1, hD1.weaken (fun _ _ _ h => hF _ h), k3, by omega, by omega⟩ hl T' rfl X'
    exact ⟨t2, stp t2 a1, b1⟩
  · obtain ⟨k1, k2, k3⟩ := vx_keep h0 e1 hS (fun q _ h => hF q h) hF hL hFr
    obtain ⟨t2, a1, b1⟩ := k_out (pc := pc) (ls := ls) (rest := st.map LV.v) o (hX1 E u hbx) (H := T'.heap) (locs := locs ++ L) (cells := cells + mc) (slots := slots + ms) ⟨by rw [e1]; exact hPx, hDx.weaken (fun _ _ _ h => hF _ h), k3, by omega, by omega⟩ (by rw [e1]; exact hce) hcv hcl T' rfl X'
    exact ⟨t2, stp.trans a1, b1⟩
section KCR
variable {y : MethodName} {bytes : ByteArray} {maxL n index fr lo : Nat} {ret : Option FieldType} {ws : List Cond} {Qc : Nat → Nat → Nat → Array Value → State → Outcome → State → Prop} {XC : Nat → Nat → Nat → String → State → State → Prop} {Ts : List Cond} {own host : String} {As st0 : List LV} {r : Option Nat}
theorem k_runV (o : CxOk g X) (hb : g.c.code = cc) (hml : g.c.maxLocals = nL) (hown : g.s.vm.findClass own = some g.m.cls) (hts : ∀ w ∈ Ts, w.before g.args g.s = true) {ci : Nat} {rc : vw_C} (hc : vwCl[ci]? = some rc) (h20 : ci < 20) (hM : ∀ sz, vy_Met g.l y ws (yRm fr lo x) (va_Pc ((LV.q r :: As).map LV.v) (ct_P g.D (wd g.cA x) (tyA g.cA) sz)) (Qc sz) (XC sz) (va_A (wd g.cA x) sz)) (cw : CallW g.R g.s g.args own rc.1 index y bytes maxL ret ws (yRm fr lo x) x.c x.z n) (hr : ∃ a, r = some a ∧ a ∈ x.LP ∧ x.k a = ci) (hn : As.length = n) (hst0 : st0 = As.reverse ++ LV.q r :: st) (hst : st.length ≤ 8) (d : decode cc pc = .ok (.invokevirtual index, 3)) :
    ∀ (H : Heap) (locs : List Loc) (cells slots : Nat) (ls : Array Slot), KS g H locs cells slots x → lq_has ls nL lv → vyR g H locs cells slots (F0 g.m pc ls (st0.map LV.v)) (st.map LV.v) (fun mc ms => Qc H.size mc ms ((LV.q r :: As).map LV.v).toArray) (XC H.size) (va_A (wd g.cA x) H.size) := by
  intro H locs cells slots ls hs hl
  obtain ⟨a, rfl, ha, hk⟩ := hr
  obtain ⟨hP, hD, hS, he1, he2⟩ := hs
  exact vy_runV (C := rc.1) (b := a) (As := As.map LV.v) (rest := st.map LV.v) (n := n) ⟨o.hx, hb, hml, hown, hts⟩ (hM H.size) cw (hg_recv o.hK hP hD hS o.hA o.hZ ha hk h20 hc) rfl (by rw [List.length_map]; exact hn) hl.1 (by subst hst0; show (As.reverse ++ LV.q (some a) :: st).map LV.v = (As.map LV.v).reverse ++ Value.ref a :: st.map LV.v; rw [List.map_append, List.map_reverse]; rfl) (lv_room (by rw [lq_cats]; exact hst)) d ⟨by show cells + x.c ≤ _; omega, by show slots + x.z ≤ _; omega⟩
theorem k_runS (o : CxOk g X) (hb : g.c.code = cc) (hml : g.c.maxLocals = nL) (hown : g.s.vm.findClass own = some g.m.cls) (hts : ∀ w ∈ Ts, w.before g.args g.s = true) (hM : ∀ sz, vy_Met g.l y ws (yRm fr lo x) (va_Pc (As.map LV.v) (ct_P g.D (wd g.cA x) (tyA g.cA) sz)) (Qc sz) (XC sz) (va_A (wd g.cA x) sz)) (cw : CallB g.R g.s g.args own index y bytes maxL ret ws (yRm fr lo x) x.c x.z n ∧ (Cond.static y).before g.args g.s = true) (hn : As.length = n) (hst0 : st0 = As.reverse ++ st) (hst : st.length ≤ 8) (d : decode cc pc = .ok (.invokestatic index, 3)) :
    ∀ (H : Heap) (locs : List Loc) (cells slots : Nat) (ls : Array Slot), KS g H locs cells slots x → lq_has ls nL lv → vyR g H locs cells slots (F0 g.m pc ls (st0.map LV.v)) (st.map LV.v) (fun mc ms => Qc H.size mc ms (As.map LV.v).toArray) (XC H.size) (va_A (wd g.cA x) H.size) := by
  intro H locs cells slots ls hs hl
  obtain ⟨hP, hD, hS, he1, he2⟩ := hs
  exact vy_runS (As := As.map LV.v) (rest := st.map LV.v) (n := n) ⟨o.hx, hb, hml, hown, hts⟩ (hM H.size) cw (pt_pre hP hD o.hK hS o.hA o.hZ) rfl (by rw [List.length_map]; exact hn) hl.1 (by subst hst0; show (As.reverse ++ st).map LV.v = (As.map LV.v).reverse ++ st.map LV.v; rw [List.map_append, List.map_reverse]) (lv_room (by rw [lq_cats]; exact hst)) d ⟨by show cells + x.c ≤ _; omega, by show slots + x.z ≤ _; omega⟩
theorem k_runSN (o : CxOk g X) (hb : g.c.code = cc) (hml : g.c.maxLocals = nL) (hown : g.s.vm.findClass own = some g.m.cls) (hts : ∀ w ∈ Ts, w.before g.args g.s = true) (hM : ∀ sz, vy_Met g.l y ws (yRm fr lo x) (va_Pc (As.map LV.v) (ct_P g.D (wd g.cA x) (tyA g.cA) sz)) (Qc sz) (XC sz) (va_A (wd g.cA x) sz)) (hNX : ∀ sz mc ms E s t, ¬ XC sz mc ms E s t) (cw : va_CN g.R g.s g.args own index y host bytes maxL ret ws (yRm fr lo x) x.c x.z n ∧ (Cond.static y).before g.args g.s = true ∧ True) (hn : As.length = n) (hst0 : st0 = As.reverse ++ st) (hst : st.length ≤ 8) (d : decode cc pc = .ok (.invokestatic index, 3)) :
    ∀ (H : Heap) (locs : List Loc) (cells slots : Nat) (ls : Array Slot), KS g H locs cells slots x → lq_has ls nL lv → vyR g H locs cells slots (F0 g.m pc ls (st0.map LV.v)) (st.map LV.v) (fun mc ms => Qc H.size mc ms (As.map LV.v).toArray) (XC H.size) (va_A (wd g.cA x) H.size) := by
  intro H locs cells slots ls hs hl
  obtain ⟨hP, hD, hS, he1, he2⟩ := hs
  exact vy_runSN (As := As.map LV.v) (rest := st.map LV.v) (n := n) ⟨o.hx, hb, hml, hown, hts⟩ (hM H.size) (hNX H.size) cw (pt_pre hP hD o.hK hS o.hA o.hZ) rfl (by rw [List.length_map]; exact hn) hl.1 (by subst hst0; show (As.reverse ++ st).map LV.v = (As.map LV.v).reverse ++ st.map LV.v; rw [List.map_append, List.map_reverse]) (lv_room (by rw [lq_cats]; exact hst)) d ⟨by show cells + x.c ≤ _; omega, by show slots + x.z ≤ _; omega⟩
theorem k_runI (o : CxOk g X) (hb : g.c.code = cc) (hml : g.c.maxLocals = nL) (hown : g.s.vm.findClass own = some g.m.cls) (hts : ∀ w ∈ Ts, w.before g.args g.s = true) {b : Nat} (hM : ∀ sz, vy_Met g.l y ws (yRm fr lo x) (va_Pc ((LV.q (some b) :: As).map LV.v) (ct_P g.D (wd g.cA x) (tyA g.cA) sz)) (Qc sz) (XC sz) (va_A (wd g.cA x) sz)) (hNX : ∀ sz mc ms E s t, ¬ XC sz mc ms E s t) (cw : CallB g.R g.s g.args own index y bytes maxL none ws (yRm fr lo x) x.c x.z n ∧ y.name = "<init>" ∧ (Cond.instanceMethod y).before g.args g.s = true) (hn : As.length = n) (hst0 : st0 = As.reverse ++ LV.q (some b) :: st) (hst : st.length ≤ 8) (d : decode cc pc = .ok (.invokespecial index, 3)) :
    ∀ (H : Heap) (locs : List Loc) (cells slots : Nat) (ls : Array Slot), KS g H locs cells slots x → lq_has ls nL lv → vyR g H locs cells slots (F0 g.m pc ls (st0.map LV.v)) (st.map LV.v) (fun mc ms => Qc H.size mc ms ((LV.q (some b) :: As).map LV.v).toArray) (XC H.size) (va_A (wd g.cA x) H.size) := by
  intro H locs cells slots ls hs hl
  obtain ⟨hP, hD, hS, he1, he2⟩ := hs
  exact vy_runI (b := b) (As := As.map LV.v) (rest := st.map LV.v) (n := n) ⟨o.hx, hb, hml, hown, hts⟩ (hM H.size) (hNX H.size) cw (pt_pre hP hD o.hK hS o.hA o.hZ) rfl (by rw [List.length_map]; exact hn) hl.1 (by subst hst0; show (As.reverse ++ LV.q (some b) :: st).map LV.v = (As.map LV.v).reverse ++ Value.ref b :: st.map LV.v; rw [List.map_append, List.map_reverse]; rfl) (lv_room (by rw [lq_cats]; exact hst)) d ⟨by show cells + x.c ≤ _; omega, by show slots + x.z ≤ _; omega⟩
theorem k_runIN (o : CxOk g X) (hb : g.c.code = cc) (hml : g.c.maxLocals = nL) (hown : g.s.vm.findClass own = some g.m.cls) (hts : ∀ w ∈ Ts, w.before g.args g.s = true) {b : Nat} (hM : ∀ sz, vy_Met g.l y ws (yRm fr lo x) (va_Pc ((LV.q (some b) :: As).map LV.v) (ct_P g.D (wd g.cA x) (tyA g.cA) sz)) (Qc sz) (XC sz) (va_A (wd g.cA x) sz)) (hNX : ∀ sz mc ms E s t, ¬ XC sz mc ms E s t) (cw : va_CN g.R g.s g.args own index y host bytes maxL none ws (yRm fr lo x) x.c x.z n ∧ y.name = "<init>" ∧ (Cond.instanceMethod y).before g.args g.s = true) (hn : As.length = n) (hst0 : st0 = As.reverse ++ LV.q (some b) :: st) (hst : st.length ≤ 8) (d : decode cc pc = .ok (.invokespecial index, 3)) :
    ∀ (H : Heap) (locs : List Loc) (cells slots : Nat) (ls : Array Slot), KS g H locs cells slots x → lq_has ls nL lv → vyR g H locs cells slots (F0 g.m pc ls (st0.map LV.v)) (st.map LV.v) (fun mc ms => Qc H.size mc ms ((LV.q (some b) :: As).map LV.v).toArray) (XC H.size) (va_A (wd g.cA x) H.size) := by
  intro H locs cells slots ls hs hl
  obtain ⟨hP, hD, hS, he1, he2⟩ := hs
  exact vy_runIN (b := b) (As := As.map LV.v) (rest := st.map LV.v) (n := n) ⟨o.hx, hb, hml, hown, hts⟩ (hM H.size) (hNX H.size) cw (pt_pre hP hD o.hK hS o.hA o.hZ) rfl (by rw [List.length_map]; exact hn) hl.1 (by subst hst0; show (As.reverse ++ LV.q (some b) :: st).map LV.v = (As.map LV.v).reverse ++ Value.ref b :: st.map LV.v; rw [List.map_append, List.map_reverse]; rfl) (lv_room (by rw [lq_cats]; exact hst)) d ⟨by show cells + x.c ≤ _; omega, by show slots + x.z ≤ _; omega⟩
theorem yX_no {D : va_G} {cA : Nat → ClassId} {c z : Nat} {A : Nat → Nat → Prop} : ∀ sz mc ms E s t, ¬ yX D cA (A sz) c z (fun _ _ => False) mc ms E s t := by
  intro sz mc ms E s t h
  obtain ⟨u, -, ⟨⟨h, -⟩, -⟩, -⟩ := h
  exact h
end KCR
/-- Object's constructor -/
theorem k_objInit (o : CxOk g X) (hb : g.c.code = cc) (hml : g.c.maxLocals = nL) {own : String} {idx : Nat} (hown : g.s.vm.findClass own = some g.m.cls) (hlink : (Cond.methodLink own idx Lib.objectInit).before g.args g.s = true) (hinst : (Cond.instanceMethod Lib.objectInit).before g.args g.s = true) (hcode : (Cond.code Lib.objectInit ⟨#[0xb1]⟩ 1 none).before g.args g.s = true) (hf : 1 ≤ g.R.frames) (hlo : 12 + st.length ≤ g.R.locals) (d : decode cc pc = .ok (.invokespecial idx, 3)) {r : Option Nat} (hr : ∃ a, r = some a) (kk : KW g nL (pc + 3) lv st x) : KW g nL pc lv (.q r :: st) x := by
  intro H locs cells slots ls hs hl
  obtain ⟨a, rfl⟩ := hr
  exact W.objInit (g := F0 g.m pc ls (.ref a :: st.map LV.v)) o.hx hb hown hlink hinst hcode rfl (by rw [hml]; exact hl.1) rfl d hf (by show 2 * 0 + ((st.map LV.v).map fun v => v.category).sum + 12 ≤ g.R.locals; rw [lq_cats]; omega) (kk H locs cells slots ls hs hl)
theorem k_mmax (o : CxOk g X) (hb : g.c.code = cc) (hml : g.c.maxLocals = nL) {own : String} {index : Nat} (hown : g.s.vm.findClass own = some g.m.cls) (hlink : (Cond.methodLink own index Lib.Math.max.name).before g.args g.s = true) (hstat : (Cond.static Lib.Math.max.name).before g.args g.s = true) (hini : (Cond.initialized "java/lang/Math").before g.args g.s = true) (hcode : (Cond.code Lib.Math.max.name Lib.Math.max.code 2 (some .int)).before g.args g.s = true) (hf : 1 ≤ g.R.frames) (hlo : st.length + 13 ≤ g.R.locals) (d : decode cc pc = .ok (.invokestatic index, 3)) {a b : Int32} (kk : KW g nL (pc + 3) lv (.i (if a < b then b else a) :: st) x) : KW g nL pc lv (.i b :: .i a :: st) x := by
  intro H locs cells slots ls hs hl
  exact va_mmax o.hx hb (by rw [hml]; exact hl.1.symm) hown hlink hstat hini hcode hf (by rw [lq_cats]; exact hlo) (by have := hs.2.2.2.1; omega) (by have := hs.2.2.2.2; omega) d (kk H locs cells slots ls hs hl)
theorem k_mmin (o : CxOk g X) (hb : g.c.code = cc) (hml : g.c.maxLocals = nL) {own : String} {index : Nat} (hown : g.s.vm.findClass own = some g.m.cls) (hlink : (Cond.methodLink own index Lib.Math.min.name).before g.args g.s = true) (hstat : (Cond.static Lib.Math.min.name).before g.args g.s = true) (hini : (Cond.initialized "java/lang/Math").before g.args g.s = true) (hcode : (Cond.code Lib.Math.min.name Lib.Math.min.code 2 (some .int)).before g.args g.s = true) (hf : 1 ≤ g.R.frames) (hlo : st.length + 13 ≤ g.R.locals) (d : decode cc pc = .ok (.invokestatic index, 3)) {a b : Int32} (kk : KW g nL (pc + 3) lv (.i (if b < a then b else a) :: st) x) : KW g nL pc lv (.i b :: .i a :: st) x := by
  intro H locs cells slots ls hs hl
  exact va_mmin o.hx hb (by rw [hml]; exact hl.1.symm) hown hlink hstat hini hcode hf (by rw [lq_cats]; exact hlo) (by have := hs.2.2.2.1; omega) (by have := hs.2.2.2.2; omega) d (kk H locs cells slots ls hs hl)
end KCA
section KCE
variable {l : Launch} {y : MethodName} {ws ws' : List Cond} {fr lo : Nat} {D : va_G} {cA : Nat → ClassId} {As : List LV} {x : HS} {X : String → HS → Prop} {cc : ByteArray} {maxL : Nat} {ret : Option FieldType} {own : String}
/-- what a body may use -/
def Bdy (g : Cx) (X : String → HS → Prop) (y : MethodName) (ws : List Cond) (fr lo : Nat) (cc : ByteArray) (maxL : Nat) (ret : Option FieldType) : Prop := (CxOk g X) ∧ (g.c.code = cc) ∧ (g.c.maxLocals = maxL) ∧ (g.s.vm.findClass y.cls = some g.m.cls) ∧ (∀ w ∈ ws, w.before g.args g.s = true) ∧ (g.meth.sig.returnType = ret) ∧ (g.R.frames = fr) ∧ (g.R.locals = lo) ∧ (g.meth.name = y.name)
theorem Bdy.o {g : Cx} {X : String → HS → Prop} {y : MethodName} {ws : List Cond} {fr lo : Nat} {cc : ByteArray} {maxL : Nat} {ret : Option FieldType} (b : Bdy g X y ws fr lo cc maxL ret) : CxOk g X := b.1
theorem Bdy.hb {g : Cx} {X : String → HS → Prop} {y : MethodName} {ws : List Cond} {fr lo : Nat} {cc : ByteArray} {maxL : Nat} {ret : Option FieldType} (b : Bdy g X y ws fr lo cc maxL ret) : g.c.code = cc := b.2.1
theorem Bdy.hml {g : Cx} {X : String → HS → Prop} {y : MethodName} {ws : List Cond} {fr lo : Nat} {cc : ByteArray} {maxL : Nat} {ret : Option FieldType} (b : Bdy g X y ws fr lo cc maxL ret) : g.c.maxLocals = maxL := b.2.2.1
theorem Bdy.hown {g : Cx} {X : String → HS → Prop} {y : MethodName} {ws : List Cond} {fr lo : Nat} {cc : ByteArray} {maxL : Nat} {ret : Option FieldType} (b : Bdy g X y ws fr lo cc maxL ret) : g.s.vm.findClass y.cls = some g.m.cls := b.2.2.2.1
theorem Bdy.hts {g : Cx} {X : String → HS → Prop} {y : MethodName} {ws : List Cond} {fr lo : Nat} {cc : ByteArray} {maxL : Nat} {ret : Option FieldType} (b : Bdy g X y ws fr lo cc maxL ret) : ∀ w ∈ ws, w.before g.args g.s = true := b.2.2.2.2.1
theorem Bdy.hr {g : Cx} {X : String → HS → Prop} {y : MethodName} {ws : List Cond} {fr lo : Nat} {cc : ByteArray} {maxL : Nat} {ret : Option FieldType} (b : Bdy g X y ws fr lo cc maxL ret) : g.meth.sig.returnType = ret := b.2.2.2.2.2.1
theorem Bdy.hR1 {g : Cx} {X : String → HS → Prop} {y : MethodName} {ws : List Cond} {fr lo : Nat} {cc : ByteArray} {maxL : Nat} {ret : Option FieldType} (b : Bdy g X y ws fr lo cc maxL ret) : g.R.frames = fr := b.2.2.2.2.2.2.1
theorem Bdy.hR2 {g : Cx} {X : String → HS → Prop} {y : MethodName} {ws : List Cond} {fr lo : Nat} {cc : ByteArray} {maxL : Nat} {ret : Option FieldType} (b : Bdy g X y ws fr lo cc maxL ret) : g.R.locals = lo := b.2.2.2.2.2.2.2.1
theorem Bdy.hnm {g : Cx} {X : String → HS → Prop} {y : MethodName} {ws : List Cond} {fr lo : Nat} {cc : ByteArray} {maxL : Nat} {ret : Option FieldType} (b : Bdy g X y ws fr lo cc maxL ret) : g.meth.name = y.name := b.2.2.2.2.2.2.2.2
theorem y_ofW (Qc : Nat → Nat → Array Value → State → Outcome → State → Prop) (sz : Nat) (hl : l.stackTraces = false) (hy : plainName y.cls = true) (hw : ws = Cond.code y cc maxL ret :: ws') (hn : Nat.ble As.length maxL = true)
    (body : ∀ g : Cx, g.l = l → g.D = D → g.cA = cA → g.A = va_A (wd cA x) sz → g.R = yRm fr lo x → g.s.heap.size = sz → Bdy g X y ws fr lo cc maxL ret → (∀ mc ms t, MQ g.below (Qc mc ms) g.args g.s mc ms g.A t → g.Q t) → KW g maxL 0 (lvN 0 As) [] x) : vy_Met l y ws (yRm fr lo x) (va_Pc (As.map LV.v) (ct_P D (wd cA x) (tyA cA) sz)) Qc (yX D cA (va_A (wd cA x) sz) x.c x.z X) (va_A (wd cA x) sz) := by
  refine MetFree.of_bodyS (code := cc) (maxLocals := maxL) (ret := ret) hy ?_ ?_
  · intro args s m h hn
    obtain ⟨meth, c, h1, h2, h3, h4, h5, h6, -, -⟩ := Cond.code_spec hn (atoms_spec (ws := ws) h _ (by rw [hw]; exact List.mem_cons_self))
    exact ⟨meth, c, h1, h2, h3, h4, h5, h6⟩
  · intro p e s m args below meth c s₁ B hml hP _
    have hh0 : s₁.heap = s.heap := by rw [B.state]; rfl
    have ht : ∀ x ∈ c.exceptionTable.toList, False := by
      obtain ⟨meth9, c9, h1, h2, -, -, -, -, h7, -⟩ := Cond.code_spec B.named (atoms_spec (ws := ws) B.pre _ (by rw [hw]; exact List.mem_cons_self))
      cases Option.some.inj (h1.symm.trans B.method)
      cases Option.some.inj (h2.symm.trans (Stand.of_body B).code)
      intro x hx
      rw [Array.isEmpty_iff.mp h7] at hx
      cases hx
    obtain ⟨rfl, hsz, hP, hK, hD0, hZ⟩ := hP
    have hD := hD0.self (sz := sz)
    have hl0 := lv_entry (As.map LV.v) (n := maxL) (by rw [lq_sl]; exact Nat.le_of_ble_eq_true hn)
    rw [lq_args] at hl0
    have hk := body (p, l, e, yRm fr lo x, s, m, (As.map LV.v).toArray, below, meth, c, (fun t => ∃ o, t.status = .running ∧ Ended t below o ∧ vy_Q Qc (yX D cA (va_A (wd cA x) sz) x.c x.z X) (va_A (wd cA x) sz) (As.map LV.v).toArray s o t), D, cA, va_A (wd cA x) sz) rfl rfl rfl rfl rfl hsz
      (show Bdy _ _ _ _ _ _ _ _ _ from ⟨(show CxOk _ _ from ⟨B.exec, hK, fun q h => Or.inr (by rw [← hsz]; exact h), hZ, hl, B.notSynchronized, ht, fun mc ms t ⟨o, h1, h2, h3⟩ => ⟨o, h1, h2, mc, ms, by
          rcases h3 with ⟨h3, -⟩ | h3
          · exact h3.elim
          · exact Or.inr h3⟩⟩), B.bytes, hml, findClass_of_methodNamed B.named, atoms_spec (ws := ws) B.pre, B.returns, rfl, rfl, (name_of_methodNamed B.named B.method).1⟩)
      (fun mc ms t ⟨o, h1, h2, h3, h4⟩ => ⟨o, h1, h2, mc, ms, Or.inl ⟨h3, h4⟩⟩)
    have hk2 := hk s.heap [] 0 0 _ ⟨hP, hD, va_S.rf, Nat.zero_add _, Nat.zero_add _⟩ hl0
    have hk3 : W p l e (yRm fr lo x) s m (As.map LV.v).toArray below meth c s.heap [] 0 0 (fun t => ∃ o, t.status = .running ∧ Ended t below o ∧ vy_Q Qc (yX D cA (va_A (wd cA x) sz) x.c x.z X) (va_A (wd cA x) sz) (As.map LV.v).toArray s o t) (entryFrame m (As.map LV.v).toArray maxL) := by
      rw [lg_entry_eq]; exact hk2
    obtain ⟨t, a1, o, b1, b2, b3⟩ := hk3 s₁ hh0 (Stand.of_body B)
    exact ⟨t, o, a1, b1, b2, b3⟩
theorem YI.of {Q : Int32 → HS → Prop} (hl : l.stackTraces = false) (hy : plainName y.cls = true) (hw : ws = Cond.code y cc maxL ret :: ws') (hn : Nat.ble As.length maxL = true) (body : ∀ g : Cx, Bdy g X y ws fr lo cc maxL ret → FrI g Q → KW g maxL 0 (lvN 0 As) [] x) : YI l y ws fr lo D cA As x Q X := by
  intro sz
  refine y_ofW _ sz hl hy hw hn (fun g e1 e2 e3 e4 e5 e6 B f => body g B ?_)
  intro mc ms t h
  refine f mc ms t ?_
  rw [e2, e3, e4, e5] at h
  rw [e4]
  exact h
theorem YV.of {Q : HS → Prop} (hl : l.stackTraces = false) (hy : plainName y.cls = true) (hw : ws = Cond.code y cc maxL ret :: ws') (hn : Nat.ble As.length maxL = true) (body : ∀ g : Cx, Bdy g X y ws fr lo cc maxL ret → FrV g Q → KW g maxL 0 (lvN 0 As) [] x) : YV l y ws fr lo D cA As x Q X := by
  intro sz
  refine y_ofW _ sz hl hy hw hn (fun g e1 e2 e3 e4 e5 e6 B f => body g B ?_)
  intro mc ms t h
  refine f mc ms t ?_
  rw [e2, e3, e4, e5] at h
  rw [e4]
  exact h
theorem YQ.of {Q : Option Nat → HS → Prop} (hl : l.stackTraces = false) (hy : plainName y.cls = true) (hw : ws = Cond.code y cc maxL ret :: ws') (hn : Nat.ble As.length maxL = true) (body : ∀ g : Cx, Bdy g X y ws fr lo cc maxL ret → FrQ g Q → KW g maxL 0 (lvN 0 As) [] x) : YQ l y ws fr lo D cA As x Q X := by
  intro sz
  refine y_ofW _ sz hl hy hw hn (fun g e1 e2 e3 e4 e5 e6 B f => body g B ?_)
  intro mc ms t h
  refine f mc ms t ?_
  rw [e2, e3, e4, e5] at h
  rw [e4]
  exact h
end KCE
