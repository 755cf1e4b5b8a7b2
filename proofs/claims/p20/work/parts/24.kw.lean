/-! THE MACHINE'S SIDE OF THE WORDS: places of a method's code, with typed stack and locals, over a heap of four maps -/
def LV : Type := Int32 ⊕ Option Nat
abbrev LV.i (v : Int32) : LV := Sum.inl v
abbrev LV.q (r : Option Nat) : LV := Sum.inr r
abbrev LV.v (a : LV) : Value := Sum.elim (fun v => Value.int v) va_rf a
theorem LV.cat (a : LV) : a.v.category = 1 := by
  rcases a with v | r
  · rfl
  · cases r <;> rfl
def lvN : Nat → List LV → List (Nat × LV)
  | _, [] => []
  | i, v :: vs => (i, v) :: lvN (i + 1) vs
def lvM (lv : List (Nat × LV)) : List (Nat × Value) := lv.map fun q => (q.1, q.2.v)
def lq_has (ls : Array Slot) (nL : Nat) (lv : List (Nat × LV)) : Prop := lv_has ls nL (lvM lv)
theorem lq_at {ls : Array Slot} {nL : Nat} {lv : List (Nat × LV)} (h : lq_has ls nL lv) (k : Nat) {i : Nat} {v : LV} (hk : lv[k]? = some (i, v)) : ls[i]? = some (.val v.v) := lv_at h k (by rw [lvM, List.getElem?_map, hk]; rfl)
theorem lq_of {ls : Array Slot} {nL i : Nat} {lv : List (Nat × LV)} {v : LV} (h : lv_has ls nL ((i, v.v) :: (lvM lv).filter (fun q => !(q.1 == i) && !(q.1 + 1 == i && q.2.category == 2)))) : lq_has ls nL ((i, v) :: lv.filter (fun q => !(q.1 == i))) := by
  refine ⟨h.1, h.2.1, fun q hq => h.2.2 q ?_⟩
  rw [lvM, List.map_cons] at hq
  rcases List.mem_cons.mp hq with h1 | h1
  · exact List.mem_cons.mpr (Or.inl h1)
  · obtain ⟨⟨a, b⟩, h2, rfl⟩ := List.mem_map.mp h1
    obtain ⟨h3, h4⟩ := List.mem_filter.mp h2
    refine List.mem_cons_of_mem _ (List.mem_filter.mpr ⟨List.mem_map.mpr ⟨(a, b), h3, rfl⟩, ?_⟩)
    have hc : (b.v.category == 2) = false := by rw [b.cat]; rfl
    show (!(a == i) && !(a + 1 == i && b.v.category == 2)) = true
    rw [hc, Bool.and_false, Bool.not_false, Bool.and_true]
    exact h4
theorem lq_sub {ls : Array Slot} {nL : Nat} {lv lw : List (Nat × LV)} (h : lq_has ls nL lv) (ks : List Nat) (hk : ks.filterMap (fun k => lv[k]?) = lw) : lq_has ls nL lw := by
  refine ⟨h.1, h.2.1, fun q hq => ?_⟩
  obtain ⟨⟨a, b⟩, h2, rfl⟩ := List.mem_map.mp hq
  rw [← hk] at h2
  obtain ⟨k, -, h3⟩ := List.mem_filterMap.mp h2
  exact lq_at h k h3
theorem lq_cats (st : List LV) : ((st.map LV.v).map fun v => v.category).sum = st.length := by
  induction st with
  | nil => rfl
  | cons a t ih => rw [List.map_cons, List.map_cons, List.sum_cons, ih, a.cat, List.length_cons]; omega
theorem lq_sl (As : List LV) : (lg_sl (As.map LV.v)).length = As.length := by
  induction As with
  | nil => rfl
  | cons a t ih =>
    have h : lg_sl ((a :: t).map LV.v) = .val a.v :: lg_sl (t.map LV.v) := by
      show (if a.v.category = 2 then [Slot.val a.v, .second] else [.val a.v]) ++ _ = _
      rw [if_neg (by rw [a.cat]; decide)]; rfl
    rw [h, List.length_cons, ih, List.length_cons]
theorem lq_args (As : List LV) : ∀ i, lv_args i (As.map LV.v) = lvM (lvN i As) := by
  induction As with
  | nil => exact fun i => rfl
  | cons a t ih =>
    intro i
    show (i, a.v) :: lv_args (if a.v.category = 2 then i + 2 else i + 1) (t.map LV.v) = (i, a.v) :: lvM (lvN (i + 1) t)
    rw [if_neg (by rw [a.cat]; decide), ih]
def Cx : Type := Program × Launch × Env × Room × State × MethodId × Array Value × List Frame × Method × Code × (State → Prop) × va_G × (Nat → ClassId) × (Nat → Prop)
abbrev Cx.p (g : Cx) : Program := g.1
abbrev Cx.l (g : Cx) : Launch := g.2.1
abbrev Cx.e (g : Cx) : Env := g.2.2.1
abbrev Cx.R (g : Cx) : Room := g.2.2.2.1
abbrev Cx.s (g : Cx) : State := g.2.2.2.2.1
abbrev Cx.m (g : Cx) : MethodId := g.2.2.2.2.2.1
abbrev Cx.args (g : Cx) : Array Value := g.2.2.2.2.2.2.1
abbrev Cx.below (g : Cx) : List Frame := g.2.2.2.2.2.2.2.1
abbrev Cx.meth (g : Cx) : Method := g.2.2.2.2.2.2.2.2.1
abbrev Cx.c (g : Cx) : Code := g.2.2.2.2.2.2.2.2.2.1
abbrev Cx.Q (g : Cx) : State → Prop := g.2.2.2.2.2.2.2.2.2.2.1
abbrev Cx.D (g : Cx) : va_G := g.2.2.2.2.2.2.2.2.2.2.2.1
abbrev Cx.cA (g : Cx) : Nat → ClassId := g.2.2.2.2.2.2.2.2.2.2.2.2.1
abbrev Cx.A (g : Cx) : Nat → Prop := g.2.2.2.2.2.2.2.2.2.2.2.2.2
abbrev wd (cA : Nat → ClassId) (x : HS) : va_W := po x.LP (hp cA x.k x.n x.I x.F x.J x.G)
def KS (g : Cx) (H : Heap) (locs : List Loc) (cells slots : Nat) (x : HS) : Prop := va_P g.D vwCl (wd g.cA x) H ∧ va_D g.A (wd g.cA x) ∧ va_S g.A g.s.heap H locs ∧ cells + x.c = g.R.cells ∧ slots + x.z = g.R.slots
/-- from the place pc with these locals, this stack and this heap it comes to a good end -/
def KW (g : Cx) (nL pc : Nat) (lv : List (Nat × LV)) (st : List LV) (x : HS) : Prop := ∀ (H : Heap) (locs : List Loc) (cells slots : Nat) (ls : Array Slot), KS g H locs cells slots x → lq_has ls nL lv → W g.p g.l g.e g.R g.s g.m g.args g.below g.meth g.c H locs cells slots g.Q (F0 g.m pc ls (st.map LV.v))
def CxOk (g : Cx) (X : String → HS → Prop) : Prop := (g.p.tables.exec = Jvm.exec) ∧ (va_K g.D vwCl (tyA g.cA) g.s) ∧ (∀ q, g.s.heap.size ≤ q → g.A q) ∧ (tx_St g.A g.s) ∧ (g.l.stackTraces = false) ∧ (g.meth.locks = false) ∧ (∀ x ∈ g.c.exceptionTable.toList, False) ∧ (∀ mc ms t, vx_MQ g.below (fun _ _ _ _ => False) (px_X g.D (fun E u => X E u ∧ mc + u.c = g.R.cells ∧ ms + u.z = g.R.slots) (wd g.cA) g.A) g.args g.s mc ms g.A t → g.Q t)
theorem CxOk.hx {g : Cx} {X : String → HS → Prop} (o : CxOk g X) : g.p.tables.exec = Jvm.exec := o.1
theorem CxOk.hK {g : Cx} {X : String → HS → Prop} (o : CxOk g X) : va_K g.D vwCl (tyA g.cA) g.s := o.2.1
theorem CxOk.hA {g : Cx} {X : String → HS → Prop} (o : CxOk g X) : ∀ q, g.s.heap.size ≤ q → g.A q := o.2.2.1
theorem CxOk.hZ {g : Cx} {X : String → HS → Prop} (o : CxOk g X) : tx_St g.A g.s := o.2.2.2.1
theorem CxOk.hl {g : Cx} {X : String → HS → Prop} (o : CxOk g X) : g.l.stackTraces = false := o.2.2.2.2.1
theorem CxOk.hlk {g : Cx} {X : String → HS → Prop} (o : CxOk g X) : g.meth.locks = false := o.2.2.2.2.2.1
theorem CxOk.htb {g : Cx} {X : String → HS → Prop} (o : CxOk g X) : ∀ x ∈ g.c.exceptionTable.toList, False := o.2.2.2.2.2.2.1
theorem CxOk.hX {g : Cx} {X : String → HS → Prop} (o : CxOk g X) : ∀ mc ms t, vx_MQ g.below (fun _ _ _ _ => False) (px_X g.D (fun E u => X E u ∧ mc + u.c = g.R.cells ∧ ms + u.z = g.R.slots) (wd g.cA) g.A) g.args g.s mc ms g.A t → g.Q t := o.2.2.2.2.2.2.2
section KOA
variable {g : Cx} {X : String → HS → Prop} {cc : ByteArray} {nL pc : Nat} {lv : List (Nat × LV)} {st : List LV} {x : HS}
theorem KW.sub {lw : List (Nat × LV)} (ks : List Nat) (hk : ks.filterMap (fun k => lv[k]?) = lw) (k : KW g nL pc lw st x) : KW g nL pc lv st x := fun H locs cells slots ls hs hl => k H locs cells slots ls hs (lq_sub hl ks hk)

theorem k_aload_n (o : CxOk g X) (hb : g.c.code = cc) {j : Fin 4} {i : Nat} {r : Option Nat} (d : decode cc pc = .ok (.aload_n j, 1)) (hi : (j : Nat) = i) (k : Nat) (hk : lv[k]? = some (i, .q r)) (kk : KW g nL (pc + 1) lv (.q r :: st) x) : KW g nL pc lv st x := by
  intro H locs cells slots ls hs hl
  have h1 := lq_at hl k hk
  have h2 := kk H locs cells slots ls hs hl
  cases r with
  | none => exact lv_aload_nN o.hx hb d hi h1 h2
  | some a => exact lv_aload_n o.hx hb d hi h1 h2
theorem k_iload_n (o : CxOk g X) (hb : g.c.code = cc) {j : Fin 4} {i : Nat} {v : Int32} (d : decode cc pc = .ok (.iload_n j, 1)) (hi : (j : Nat) = i) (k : Nat) (hk : lv[k]? = some (i, .i v)) (kk : KW g nL (pc + 1) lv (.i v :: st) x) : KW g nL pc lv st x :=
  fun H locs cells slots ls hs hl => lv_iload_n o.hx hb d hi (lq_at hl k hk) (kk H locs cells slots ls hs hl)
theorem k_aload (o : CxOk g X) (hb : g.c.code = cc) {i : Nat} {r : Option Nat} (d : decode cc pc = .ok (.aload i, 2)) (k : Nat) (hk : lv[k]? = some (i, .q r)) (kk : KW g nL (pc + 2) lv (.q r :: st) x) : KW g nL pc lv st x := by
  intro H locs cells slots ls hs hl
  have h1 := lq_at hl k hk
  have h2 := kk H locs cells slots ls hs hl
  cases r with
  | none => exact lv_aloadN o.hx hb d h1 h2
  | some a => exact lv_aload o.hx hb d h1 h2
theorem k_iload (o : CxOk g X) (hb : g.c.code = cc) {i : Nat} {v : Int32} (d : decode cc pc = .ok (.iload i, 2)) (k : Nat) (hk : lv[k]? = some (i, .i v)) (kk : KW g nL (pc + 2) lv (.i v :: st) x) : KW g nL pc lv st x :=
  fun H locs cells slots ls hs hl => lv_iload o.hx hb d (lq_at hl k hk) (kk H locs cells slots ls hs hl)
theorem k_astore_n (o : CxOk g X) (hb : g.c.code = cc) {j : Fin 4} {i : Nat} {r : Option Nat} (d : decode cc pc = .ok (.astore_n j, 1)) (hi : (j : Nat) = i) (hn : Nat.blt i nL = true) (kk : KW g nL (pc + 1) ((i, .q r) :: lv.filter (fun q => !(q.1 == i))) st x) : KW g nL pc lv (.q r :: st) x := by
  intro H locs cells slots ls hs hl
  have hn2 : i < nL := Nat.le_of_ble_eq_true hn
  cases r with
  | none => exact lv_astore_nN o.hx hb d hi hl hn2 rfl (fun ls' h' => kk H locs cells slots ls' hs (lq_of (v := .q none) h'))
  | some a => exact lv_astore_n o.hx hb d hi hl hn2 rfl (fun ls' h' => kk H locs cells slots ls' hs (lq_of (v := .q (some a)) h'))
theorem k_istore_n (o : CxOk g X) (hb : g.c.code = cc) {j : Fin 4} {i : Nat} {v : Int32} (d : decode cc pc = .ok (.istore_n j, 1)) (hi : (j : Nat) = i) (hn : Nat.blt i nL = true) (kk : KW g nL (pc + 1) ((i, .i v) :: lv.filter (fun q => !(q.1 == i))) st x) : KW g nL pc lv (.i v :: st) x :=
  fun H locs cells slots ls hs hl => lv_istore_n o.hx hb d hi hl (Nat.le_of_ble_eq_true hn) rfl (fun ls' h' => kk H locs cells slots ls' hs (lq_of (v := .i v) h'))
theorem k_astore (o : CxOk g X) (hb : g.c.code = cc) {i : Nat} {r : Option Nat} (d : decode cc pc = .ok (.astore i, 2)) (hn : Nat.blt i nL = true) (kk : KW g nL (pc + 2) ((i, .q r) :: lv.filter (fun q => !(q.1 == i))) st x) : KW g nL pc lv (.q r :: st) x := by
  intro H locs cells slots ls hs hl
  have hn2 : i < nL := Nat.le_of_ble_eq_true hn
  cases r with
  | none => exact lv_astoreN o.hx hb d hl hn2 rfl (fun ls' h' => kk H locs cells slots ls' hs (lq_of (v := .q none) h'))
  | some a => exact lv_astore o.hx hb d hl hn2 rfl (fun ls' h' => kk H locs cells slots ls' hs (lq_of (v := .q (some a)) h'))
theorem k_istore (o : CxOk g X) (hb : g.c.code = cc) {i : Nat} {v : Int32} (d : decode cc pc = .ok (.istore i, 2)) (hn : Nat.blt i nL = true) (kk : KW g nL (pc + 2) ((i, .i v) :: lv.filter (fun q => !(q.1 == i))) st x) : KW g nL pc lv (.i v :: st) x :=
  fun H locs cells slots ls hs hl => lv_istore o.hx hb d hl (Nat.le_of_ble_eq_true hn) rfl (fun ls' h' => kk H locs cells slots ls' hs (lq_of (v := .i v) h'))
theorem k_iinc (o : CxOk g X) (hb : g.c.code = cc) {i : Nat} {n : Int} {v w : Int32} (d : decode cc pc = .ok (.iinc i n, 3)) (k : Nat) (hk : lv[k]? = some (i, .i v)) (hw : Int32.ofInt n = w) (hn : Nat.blt i nL = true) (kk : KW g nL (pc + 3) ((i, .i (v + w)) :: lv.filter (fun q => !(q.1 == i))) st x) : KW g nL pc lv st x := by
  intro H locs cells slots ls hs hl
  exact lv_iinc (k := k) (x := v) (v := v + w) o.hx hb d hl (by rw [lvM, List.getElem?_map, hk]; rfl) (by rw [hw]) (Nat.le_of_ble_eq_true hn) rfl (fun ls' h' => kk H locs cells slots ls' hs (lq_of (v := .i (v + w)) h'))
theorem k_iconst (o : CxOk g X) (hb : g.c.code = cc) {n : Int} {v : Int32} (d : decode cc pc = .ok (.iconst n, 1)) (hv : Int32.ofInt n = v) (kk : KW g nL (pc + 1) lv (.i v :: st) x) : KW g nL pc lv st x :=
  fun H locs cells slots ls hs hl => lv_iconst o.hx hb d hv (kk H locs cells slots ls hs hl)
theorem k_bipush (o : CxOk g X) (hb : g.c.code = cc) {n : Int} {v : Int32} (d : decode cc pc = .ok (.bipush n, 2)) (hv : (Int8.ofInt n).toInt32 = v) (kk : KW g nL (pc + 2) lv (.i v :: st) x) : KW g nL pc lv st x :=
  fun H locs cells slots ls hs hl => lv_bipush o.hx hb d hv (kk H locs cells slots ls hs hl)
theorem k_sipush (o : CxOk g X) (hb : g.c.code = cc) {n : Int} {v : Int32} (d : decode cc pc = .ok (.sipush n, 3)) (hv : (Int16.ofInt n).toInt32 = v) (kk : KW g nL (pc + 3) lv (.i v :: st) x) : KW g nL pc lv st x :=
  fun H locs cells slots ls hs hl => lv_sipush o.hx hb d hv (kk H locs cells slots ls hs hl)
theorem k_ldc (o : CxOk g X) (hb : g.c.code = cc) {own : String} {index : Nat} {v : Int32} (hown : g.s.vm.findClass own = some g.m.cls) (hc : (Cond.constant own index v).before g.args g.s = true) (d : decode cc pc = .ok (.ldc index, 2)) (kk : KW g nL (pc + 2) lv (.i v :: st) x) : KW g nL pc lv st x :=
  fun H locs cells slots ls hs hl => lv_ldc o.hx hb hown hc d (kk H locs cells slots ls hs hl)
theorem k_ldc_w (o : CxOk g X) (hb : g.c.code = cc) {own : String} {index : Nat} {v : Int32} (hown : g.s.vm.findClass own = some g.m.cls) (hc : (Cond.constant own index v).before g.args g.s = true) (d : decode cc pc = .ok (.ldc_w index, 3)) (kk : KW g nL (pc + 3) lv (.i v :: st) x) : KW g nL pc lv st x :=
  fun H locs cells slots ls hs hl => lv_ldcw o.hx hb hown hc d (kk H locs cells slots ls hs hl)
theorem k_null (o : CxOk g X) (hb : g.c.code = cc) (d : decode cc pc = .ok (.aconst_null, 1)) (kk : KW g nL (pc + 1) lv (.q none :: st) x) : KW g nL pc lv st x :=
  fun H locs cells slots ls hs hl => lv_null o.hx hb d (kk H locs cells slots ls hs hl)
theorem k_dup (o : CxOk g X) (hb : g.c.code = cc) {a : LV} (d : decode cc pc = .ok (.dup, 1)) (kk : KW g nL (pc + 1) lv (a :: a :: st) x) : KW g nL pc lv (a :: st) x :=
  fun H locs cells slots ls hs hl => lv_dup o.hx hb d a.cat (kk H locs cells slots ls hs hl)
theorem k_dup2 (o : CxOk g X) (hb : g.c.code = cc) {a b : LV} (d : decode cc pc = .ok (.dup2, 1)) (kk : KW g nL (pc + 1) lv (a :: b :: a :: b :: st) x) : KW g nL pc lv (a :: b :: st) x :=
  fun H locs cells slots ls hs hl => lv_dup2_11 o.hx hb d a.cat b.cat (kk H locs cells slots ls hs hl)
theorem k_pop (o : CxOk g X) (hb : g.c.code = cc) {a : LV} (d : decode cc pc = .ok (.pop, 1)) (kk : KW g nL (pc + 1) lv st x) : KW g nL pc lv (a :: st) x :=
  fun H locs cells slots ls hs hl => lv_pop o.hx hb d a.cat (kk H locs cells slots ls hs hl)
theorem k_goto (o : CxOk g X) (hb : g.c.code = cc) {off : Int} {tgt : Nat} (d : decode cc pc = .ok (.goto off, 3)) (ht : (pc : Int) + off = (tgt : Int)) (kk : KW g nL tgt lv st x) : KW g nL pc lv st x :=
  fun H locs cells slots ls hs hl => lv_goto o.hx hb d ht (kk H locs cells slots ls hs hl)
theorem k_i2b (o : CxOk g X) (hb : g.c.code = cc) {a : Int32} (d : decode cc pc = .ok (.i2b, 1)) (kk : KW g nL (pc + 1) lv (.i a.toInt8.toInt32 :: st) x) : KW g nL pc lv (.i a :: st) x :=
  fun H locs cells slots ls hs hl => lv_i2b o.hx hb d rfl (kk H locs cells slots ls hs hl)
theorem k_ineg (o : CxOk g X) (hb : g.c.code = cc) {a : Int32} (d : decode cc pc = .ok (.ineg, 1)) (kk : KW g nL (pc + 1) lv (.i (-a) :: st) x) : KW g nL pc lv (.i a :: st) x :=
  fun H locs cells slots ls hs hl => lv_ineg o.hx hb d (kk H locs cells slots ls hs hl)
theorem k_iadd (o : CxOk g X) (hb : g.c.code = cc) {a b : Int32} (d : decode cc pc = .ok (.iadd, 1)) (kk : KW g nL (pc + 1) lv (.i (a + b) :: st) x) : KW g nL pc lv (.i b :: .i a :: st) x :=
  fun H locs cells slots ls hs hl => lv_iadd o.hx hb d (kk H locs cells slots ls hs hl)
theorem k_isub (o : CxOk g X) (hb : g.c.code = cc) {a b : Int32} (d : decode cc pc = .ok (.isub, 1)) (kk : KW g nL (pc + 1) lv (.i (a - b) :: st) x) : KW g nL pc lv (.i b :: .i a :: st) x :=
  fun H locs cells slots ls hs hl => lv_isub o.hx hb d (kk H locs cells slots ls hs hl)
theorem k_imul (o : CxOk g X) (hb : g.c.code = cc) {a b : Int32} (d : decode cc pc = .ok (.imul, 1)) (kk : KW g nL (pc + 1) lv (.i (a * b) :: st) x) : KW g nL pc lv (.i b :: .i a :: st) x :=
  fun H locs cells slots ls hs hl => lv_imul o.hx hb d (kk H locs cells slots ls hs hl)
theorem k_iand (o : CxOk g X) (hb : g.c.code = cc) {a b : Int32} (d : decode cc pc = .ok (.iand, 1)) (kk : KW g nL (pc + 1) lv (.i (a &&& b) :: st) x) : KW g nL pc lv (.i b :: .i a :: st) x :=
  fun H locs cells slots ls hs hl => lv_iand o.hx hb d (kk H locs cells slots ls hs hl)
theorem k_ior (o : CxOk g X) (hb : g.c.code = cc) {a b : Int32} (d : decode cc pc = .ok (.ior, 1)) (kk : KW g nL (pc + 1) lv (.i (a ||| b) :: st) x) : KW g nL pc lv (.i b :: .i a :: st) x :=
  fun H locs cells slots ls hs hl => lv_ior o.hx hb d (kk H locs cells slots ls hs hl)
theorem k_ishl (o : CxOk g X) (hb : g.c.code = cc) {a b : Int32} (d : decode cc pc = .ok (.ishl, 1)) (kk : KW g nL (pc + 1) lv (.i (a <<< (b &&& 31)) :: st) x) : KW g nL pc lv (.i b :: .i a :: st) x :=
  fun H locs cells slots ls hs hl => lv_ishl o.hx hb d (kk H locs cells slots ls hs hl)
theorem k_ishr (o : CxOk g X) (hb : g.c.code = cc) {a b : Int32} (d : decode cc pc = .ok (.ishr, 1)) (kk : KW g nL (pc + 1) lv (.i (a >>> (b &&& 31)) :: st) x) : KW g nL pc lv (.i b :: .i a :: st) x :=
  fun H locs cells slots ls hs hl => lv_ishr o.hx hb d (kk H locs cells slots ls hs hl)
theorem k_iushr (o : CxOk g X) (hb : g.c.code = cc) {a b : Int32} (d : decode cc pc = .ok (.iushr, 1)) (kk : KW g nL (pc + 1) lv (.i (wUshr a b) :: st) x) : KW g nL pc lv (.i b :: .i a :: st) x :=
  fun H locs cells slots ls hs hl => lv_iushr o.hx hb d rfl (kk H locs cells slots ls hs hl)
theorem yle {a F n : Nat} (h : a = F) (h2 : Nat.ble n F = true) : n ≤ a := by rw [h]; exact Nat.le_of_ble_eq_true h2
theorem ylt {a F n : Nat} (h : a = F) (h2 : Nat.ble (n + 1) F = true) : n < a := by rw [h]; exact Nat.le_of_ble_eq_true h2
theorem k_icmp_eq (o : CxOk g X) (hb : g.c.code = cc) {a b : Int32} {A B : Prop} {off : Int} {tgt : Nat} (d : decode cc pc = .ok (.if_icmp .eq off, 3)) (ht : (pc : Int) + off = (tgt : Int)) (h : wIf (a = b) A B) (k1 : A → KW g nL tgt lv st x) (k2 : B → KW g nL (pc + 3) lv st x) : KW g nL pc lv (.i b :: .i a :: st) x :=
  fun H locs cells slots ls hs hl => lv_icmp_eq o.hx hb d ht (fun q => k1 (h.1 q) H locs cells slots ls hs hl) (fun q => k2 (h.2 q) H locs cells slots ls hs hl)
theorem k_if_eq (o : CxOk g X) (hb : g.c.code = cc) {a : Int32} {A B : Prop} {off : Int} {tgt : Nat} (d : decode cc pc = .ok (.ifCond .eq off, 3)) (ht : (pc : Int) + off = (tgt : Int)) (h : wIf (a = 0) A B) (k1 : A → KW g nL tgt lv st x) (k2 : B → KW g nL (pc + 3) lv st x) : KW g nL pc lv (.i a :: st) x :=
  fun H locs cells slots ls hs hl => lv_if_eq o.hx hb d ht (fun q => k1 (h.1 q) H locs cells slots ls hs hl) (fun q => k2 (h.2 q) H locs cells slots ls hs hl)
theorem k_icmp_ne (o : CxOk g X) (hb : g.c.code = cc) {a b : Int32} {A B : Prop} {off : Int} {tgt : Nat} (d : decode cc pc = .ok (.if_icmp .ne off, 3)) (ht : (pc : Int) + off = (tgt : Int)) (h : wIf (a = b) A B) (k1 : A → KW g nL (pc + 3) lv st x) (k2 : B → KW g nL tgt lv st x) : KW g nL pc lv (.i b :: .i a :: st) x :=
  fun H locs cells slots ls hs hl => lv_icmp_ne o.hx hb d ht (fun q => k2 (h.2 q) H locs cells slots ls hs hl) (fun q => k1 (h.1 q) H locs cells slots ls hs hl)
theorem k_if_ne (o : CxOk g X) (hb : g.c.code = cc) {a : Int32} {A B : Prop} {off : Int} {tgt : Nat} (d : decode cc pc = .ok (.ifCond .ne off, 3)) (ht : (pc : Int) + off = (tgt : Int)) (h : wIf (a = 0) A B) (k1 : A → KW g nL (pc + 3) lv st x) (k2 : B → KW g nL tgt lv st x) : KW g nL pc lv (.i a :: st) x :=
  fun H locs cells slots ls hs hl => lv_if_ne o.hx hb d ht (fun q => k2 (h.2 q) H locs cells slots ls hs hl) (fun q => k1 (h.1 q) H locs cells slots ls hs hl)
theorem k_icmp_lt (o : CxOk g X) (hb : g.c.code = cc) {a b : Int32} {A B : Prop} {off : Int} {tgt : Nat} (d : decode cc pc = .ok (.if_icmp .lt off, 3)) (ht : (pc : Int) + off = (tgt : Int)) (h : wIf (a < b) A B) (k1 : A → KW g nL tgt lv st x) (k2 : B → KW g nL (pc + 3) lv st x) : KW g nL pc lv (.i b :: .i a :: st) x :=
  fun H locs cells slots ls hs hl => lv_icmp_lt o.hx hb d ht (fun q => k1 (h.1 q) H locs cells slots ls hs hl) (fun q => k2 (h.2 q) H locs cells slots ls hs hl)
theorem k_if_lt (o : CxOk g X) (hb : g.c.code = cc) {a : Int32} {A B : Prop} {off : Int} {tgt : Nat} (d : decode cc pc = .ok (.ifCond .lt off, 3)) (ht : (pc : Int) + off = (tgt : Int)) (h : wIf (a < 0) A B) (k1 : A → KW g nL tgt lv st x) (k2 : B → KW g nL (pc + 3) lv st x) : KW g nL pc lv (.i a :: st) x :=
  fun H locs cells slots ls hs hl => lv_if_lt o.hx hb d ht (fun q => k1 (h.1 q) H locs cells slots ls hs hl) (fun q => k2 (h.2 q) H locs cells slots ls hs hl)
theorem k_icmp_ge (o : CxOk g X) (hb : g.c.code = cc) {a b : Int32} {A B : Prop} {off : Int} {tgt : Nat} (d : decode cc pc = .ok (.if_icmp .ge off, 3)) (ht : (pc : Int) + off = (tgt : Int)) (h : wIf (b ≤ a) A B) (k1 : A → KW g nL tgt lv st x) (k2 : B → KW g nL (pc + 3) lv st x) : KW g nL pc lv (.i b :: .i a :: st) x :=
  fun H locs cells slots ls hs hl => lv_icmp_ge o.hx hb d ht (fun q => k1 (h.1 q) H locs cells slots ls hs hl) (fun q => k2 (h.2 q) H locs cells slots ls hs hl)
theorem k_if_ge (o : CxOk g X) (hb : g.c.code = cc) {a : Int32} {A B : Prop} {off : Int} {tgt : Nat} (d : decode cc pc = .ok (.ifCond .ge off, 3)) (ht : (pc : Int) + off = (tgt : Int)) (h : wIf (0 ≤ a) A B) (k1 : A → KW g nL tgt lv st x) (k2 : B → KW g nL (pc + 3) lv st x) : KW g nL pc lv (.i a :: st) x :=
  fun H locs cells slots ls hs hl => lv_if_ge o.hx hb d ht (fun q => k1 (h.1 q) H locs cells slots ls hs hl) (fun q => k2 (h.2 q) H locs cells slots ls hs hl)
theorem k_icmp_gt (o : CxOk g X) (hb : g.c.code = cc) {a b : Int32} {A B : Prop} {off : Int} {tgt : Nat} (d : decode cc pc = .ok (.if_icmp .gt off, 3)) (ht : (pc : Int) + off = (tgt : Int)) (h : wIf (b < a) A B) (k1 : A → KW g nL tgt lv st x) (k2 : B → KW g nL (pc + 3) lv st x) : KW g nL pc lv (.i b :: .i a :: st) x :=
  fun H locs cells slots ls hs hl => lv_icmp_gt o.hx hb d ht (fun q => k1 (h.1 q) H locs cells slots ls hs hl) (fun q => k2 (h.2 q) H locs cells slots ls hs hl)
theorem k_if_gt (o : CxOk g X) (hb : g.c.code = cc) {a : Int32} {A B : Prop} {off : Int} {tgt : Nat} (d : decode cc pc = .ok (.ifCond .gt off, 3)) (ht : (pc : Int) + off = (tgt : Int)) (h : wIf (0 < a) A B) (k1 : A → KW g nL tgt lv st x) (k2 : B → KW g nL (pc + 3) lv st x) : KW g nL pc lv (.i a :: st) x :=
  fun H locs cells slots ls hs hl => lv_if_gt o.hx hb d ht (fun q => k1 (h.1 q) H locs cells slots ls hs hl) (fun q => k2 (h.2 q) H locs cells slots ls hs hl)
theorem k_icmp_le (o : CxOk g X) (hb : g.c.code = cc) {a b : Int32} {A B : Prop} {off : Int} {tgt : Nat} (d : decode cc pc = .ok (.if_icmp .le off, 3)) (ht : (pc : Int) + off = (tgt : Int)) (h : wIf (a ≤ b) A B) (k1 : A → KW g nL tgt lv st x) (k2 : B → KW g nL (pc + 3) lv st x) : KW g nL pc lv (.i b :: .i a :: st) x :=
  fun H locs cells slots ls hs hl => lv_icmp_le o.hx hb d ht (fun q => k1 (h.1 q) H locs cells slots ls hs hl) (fun q => k2 (h.2 q) H locs cells slots ls hs hl)
theorem k_if_le (o : CxOk g X) (hb : g.c.code = cc) {a : Int32} {A B : Prop} {off : Int} {tgt : Nat} (d : decode cc pc = .ok (.ifCond .le off, 3)) (ht : (pc : Int) + off = (tgt : Int)) (h : wIf (a ≤ 0) A B) (k1 : A → KW g nL tgt lv st x) (k2 : B → KW g nL (pc + 3) lv st x) : KW g nL pc lv (.i a :: st) x :=
  fun H locs cells slots ls hs hl => lv_if_le o.hx hb d ht (fun q => k1 (h.1 q) H locs cells slots ls hs hl) (fun q => k2 (h.2 q) H locs cells slots ls hs hl)
theorem k_ifnull (o : CxOk g X) (hb : g.c.code = cc) {r : Option Nat} {A B : Prop} {off : Int} {tgt : Nat} (d : decode cc pc = .ok (.ifnull off, 3)) (ht : (pc : Int) + off = (tgt : Int)) (h : wIf (r = none) A B) (k1 : A → KW g nL tgt lv st x) (k2 : B → KW g nL (pc + 3) lv st x) : KW g nL pc lv (.q r :: st) x := by
  intro H locs cells slots ls hs hl
  cases r with
  | none => exact lv_ifnullN o.hx hb d ht (k1 (h.1 rfl) H locs cells slots ls hs hl)
  | some a => exact lv_ifnull o.hx hb d (k2 (h.2 (fun q => by cases q)) H locs cells slots ls hs hl)
theorem k_ifnonnull (o : CxOk g X) (hb : g.c.code = cc) {r : Option Nat} {A B : Prop} {off : Int} {tgt : Nat} (d : decode cc pc = .ok (.ifnonnull off, 3)) (ht : (pc : Int) + off = (tgt : Int)) (h : wIf (r = none) A B) (k1 : A → KW g nL (pc + 3) lv st x) (k2 : B → KW g nL tgt lv st x) : KW g nL pc lv (.q r :: st) x := by
  intro H locs cells slots ls hs hl
  cases r with
  | none => exact lv_ifnonnullN o.hx hb d (k1 (h.1 rfl) H locs cells slots ls hs hl)
  | some a => exact lv_ifnonnull o.hx hb d ht (k2 (h.2 (fun q => by cases q)) H locs cells slots ls hs hl)
theorem k_acmp_eq (o : CxOk g X) (hb : g.c.code = cc) {a b : Option Nat} {A B : Prop} {off : Int} {tgt : Nat} (d : decode cc pc = .ok (.if_acmp .eq off, 3)) (ht : (pc : Int) + off = (tgt : Int)) (h : wIf (a = b) A B) (k1 : A → KW g nL tgt lv st x) (k2 : B → KW g nL (pc + 3) lv st x) : KW g nL pc lv (.q b :: .q a :: st) x :=
  fun H locs cells slots ls hs hl => lv_acmp_eq o.hx hb d ht (fun q => k1 (h.1 q) H locs cells slots ls hs hl) (fun q => k2 (h.2 q) H locs cells slots ls hs hl)
theorem k_acmp_ne (o : CxOk g X) (hb : g.c.code = cc) {a b : Option Nat} {A B : Prop} {off : Int} {tgt : Nat} (d : decode cc pc = .ok (.if_acmp .ne off, 3)) (ht : (pc : Int) + off = (tgt : Int)) (h : wIf (a = b) A B) (k1 : A → KW g nL (pc + 3) lv st x) (k2 : B → KW g nL tgt lv st x) : KW g nL pc lv (.q b :: .q a :: st) x :=
  fun H locs cells slots ls hs hl => lv_acmp_ne o.hx hb d ht (fun q => k2 (h.2 q) H locs cells slots ls hs hl) (fun q => k1 (h.1 q) H locs cells slots ls hs hl)
theorem k_tableIn (o : CxOk g X) (hb : g.c.code = cc) {dflt lo hi : Int} {offs : Array Int} {len : Nat} {v w : Int32} {off : Int} {tgt : Nat} (d : decode cc pc = .ok (.tableswitch dflt lo hi offs, len)) (hv : v = w) (h1 : ¬ w.toInt < lo) (h2 : ¬ hi < w.toInt) (ho : offs[(w.toInt - lo).toNat]? = some off) (ht : (pc : Int) + off = (tgt : Int)) (kk : KW g nL tgt lv st x) : KW g nL pc lv (.i v :: st) x := by
  subst hv
  exact fun H locs cells slots ls hs hl => lv_tableIn o.hx hb d h1 h2 ho ht (kk H locs cells slots ls hs hl)
theorem k_tableOut (o : CxOk g X) (hb : g.c.code = cc) {dflt lo hi : Int} {offs : Array Int} {len : Nat} {v : Int32} {tgt : Nat} (d : decode cc pc = .ok (.tableswitch dflt lo hi offs, len)) (h : v.toInt < lo ∨ hi < v.toInt) (ht : (pc : Int) + dflt = (tgt : Int)) (kk : KW g nL tgt lv st x) : KW g nL pc lv (.i v :: st) x :=
  fun H locs cells slots ls hs hl => lv_tableOut o.hx hb d h ht (kk H locs cells slots ls hs hl)
theorem k_lookup (o : CxOk g X) (hb : g.c.code = cc) {dflt : Int} {ps : Array (Int × Int)} {len : Nat} {v : Int32} {off : Int} {tgt : Nat} (d : decode cc pc = .ok (.lookupswitch dflt ps, len)) (hp : (ps.toList.zip (ps.toList.drop 1)).all (fun (a, next) => a.1 < next.1) = true) (ho : Op.lookupswitch.offset ps.toList dflt v.toInt = off) (ht : (pc : Int) + off = (tgt : Int)) (kk : KW g nL tgt lv st x) : KW g nL pc lv (.i v :: st) x :=
  fun H locs cells slots ls hs hl => lv_lookup o.hx hb d hp ho ht (kk H locs cells slots ls hs hl)
theorem k_vpin {i : Int32} {n : Nat} (h : wIn i n) : vp_in i n := vp_in_iff.mpr h
end KOA
section KOB
variable {g : Cx} {X : String → HS → Prop} {cc : ByteArray} {nL pc : Nat} {lv : List (Nat × LV)} {st : List LV} {x : HS}
theorem k_getI (o : CxOk g X) (hb : g.c.code = cc) {own ref C : String} {T : u_T} {N ci index : Nat} {Ts : List Cond} (hts : ∀ w ∈ Ts, w.before g.args g.s = true) (hin : ∀ w ∈ u_ws C T N, w ∈ Ts) (hown : g.s.vm.findClass own = some g.m.cls) (hc : vwCl[ci]? = some (C, T, N)) (h20 : ci < 20) (j : Nat) (hj : j < N) (hI : (hpInt ci)[j]? = some true) (hlink : (Cond.fieldLink own index ref (T j).2.1 (T j).2.2.1).before g.args g.s = true) (hsame : ∀ z, g.s.fieldFound? (T j).1 (T j).2.1 (T j).2.2.1 = some z → g.s.fieldFound? ref (T j).2.1 (T j).2.2.1 = some z) (d : decode cc pc = .ok (.getfield index, 3)) {r : Option Nat} {Z : Int32 → Prop} (h : wGetI x ci j r Z) (kk : ∀ v, Z v → KW g nL (pc + 3) lv (.i v :: st) x) : KW g nL pc lv (.q r :: st) x := by
  intro H locs cells slots ls hs hl
  obtain ⟨a, rfl, ha, hk, hz⟩ := h
  exact hg_getI o.hx hb hts hin hown o.hK hs.1 ha hk h20 hc j hj hI hlink hsame d (kk _ hz H locs cells slots ls hs hl)
theorem k_getF (o : CxOk g X) (hb : g.c.code = cc) {own ref C : String} {T : u_T} {N ci index : Nat} {Ts : List Cond} (hts : ∀ w ∈ Ts, w.before g.args g.s = true) (hin : ∀ w ∈ u_ws C T N, w ∈ Ts) (hown : g.s.vm.findClass own = some g.m.cls) (hc : vwCl[ci]? = some (C, T, N)) (h20 : ci < 20) (j : Nat) (hj : j < N) (hI : (hpInt ci)[j]? = some false) (hlink : (Cond.fieldLink own index ref (T j).2.1 (T j).2.2.1).before g.args g.s = true) (hsame : ∀ z, g.s.fieldFound? (T j).1 (T j).2.1 (T j).2.2.1 = some z → g.s.fieldFound? ref (T j).2.1 (T j).2.2.1 = some z) (d : decode cc pc = .ok (.getfield index, 3)) {r : Option Nat} {Z : Option Nat → Prop} (h : wGetF x ci j r Z) (kk : ∀ v, Z v → KW g nL (pc + 3) lv (.q v :: st) x) : KW g nL pc lv (.q r :: st) x := by
  intro H locs cells slots ls hs hl
  obtain ⟨a, rfl, ha, hk, hz⟩ := h
  exact hg_getF o.hx hb hts hin hown o.hK hs.1 ha hk h20 hc j hj hI hlink hsame d (kk _ hz H locs cells slots ls hs hl)
theorem k_putI (o : CxOk g X) (hb : g.c.code = cc) {own ref C : String} {T : u_T} {N ci index : Nat} {Ts : List Cond} (hts : ∀ w ∈ Ts, w.before g.args g.s = true) (hin : ∀ w ∈ u_ws C T N, w ∈ Ts) (ty0 : Nat → FieldType) (hty : ∀ k, k < N → parseFieldDescriptor (T k).2.2.1 = some (ty0 k)) (hnm : ∀ a, a < N → ∀ b, b < N → a ≠ b → (T a).2.1 ≠ (T b).2.1) (hown : g.s.vm.findClass own = some g.m.cls) (hc : vwCl[ci]? = some (C, T, N)) (h20 : ci < 20) (j : Nat) (hj : j < N) (hI : (hpInt ci)[j]? = some true) (hlink : (Cond.fieldLink own index ref (T j).2.1 (T j).2.2.1).before g.args g.s = true) (hsame : ∀ z, g.s.fieldFound? (T j).1 (T j).2.1 (T j).2.2.1 = some z → g.s.fieldFound? ref (T j).2.1 (T j).2.2.1 = some z) (hfin : (T j).2.2.2 = false) {ty : FieldType} (hd : parseFieldDescriptor (T j).2.2.1 = some ty) (hn : ∀ v, narrow ty (.int v) = .int v) (hfit : ∀ v, fits ty (.int v) = true) (d : decode cc pc = .ok (.putfield index, 3)) {r : Option Nat} {v : Int32} {Z : HS → Prop} (h : wPutI x ci j r v Z) (kk : ∀ y, Z y → KW g nL (pc + 3) lv st y) : KW g nL pc lv (.i v :: .q r :: st) x := by
  intro H locs cells slots ls hs hl
  obtain ⟨a, rfl, ha, hk, hz⟩ := h
  exact hg_putI o.hx hb hts hin ty0 hty hnm hown o.hK hs.1 hs.2.1 hs.2.2.1 ha hk h20 hc j hj hI hlink hsame hfin hd (hn v) (hfit v) d (fun H1 locs1 h1 h2 h3 => kk _ hz H1 locs1 cells slots ls ⟨h1, h2, h3, hs.2.2.2⟩ hl)
theorem k_putIF (o : CxOk g X) (hb : g.c.code = cc) {own ref C : String} {T : u_T} {N ci index : Nat} {Ts : List Cond} (hts : ∀ w ∈ Ts, w.before g.args g.s = true) (hin : ∀ w ∈ u_ws C T N, w ∈ Ts) (ty0 : Nat → FieldType) (hty : ∀ k, k < N → parseFieldDescriptor (T k).2.2.1 = some (ty0 k)) (hnm : ∀ a, a < N → ∀ b, b < N → a ≠ b → (T a).2.1 ≠ (T b).2.1) (hown : g.s.vm.findClass own = some g.m.cls) (hc : vwCl[ci]? = some (C, T, N)) (h20 : ci < 20) (j : Nat) (hj : j < N) (hI : (hpInt ci)[j]? = some true) (hlink : (Cond.fieldLink own index ref (T j).2.1 (T j).2.2.1).before g.args g.s = true) (hsame : ∀ z, g.s.fieldFound? (T j).1 (T j).2.1 (T j).2.2.1 = some z → g.s.fieldFound? ref (T j).2.1 (T j).2.2.1 = some z) (hfin : (T j).2.2.2 = true) (hin2 : g.meth.name = "<init>") (hdecl : (T j).1 = own) {ty : FieldType} (hd : parseFieldDescriptor (T j).2.2.1 = some ty) (hn : ∀ v, narrow ty (.int v) = .int v) (hfit : ∀ v, fits ty (.int v) = true) (d : decode cc pc = .ok (.putfield index, 3)) {r : Option Nat} {v : Int32} {Z : HS → Prop} (h : wPutI x ci j r v Z) (kk : ∀ y, Z y → KW g nL (pc + 3) lv st y) : KW g nL pc lv (.i v :: .q r :: st) x := by
  intro H locs cells slots ls hs hl
  obtain ⟨a, rfl, ha, hk, hz⟩ := h
  exact hg_putIF o.hx hb hts hin ty0 hty hnm hown o.hK hs.1 hs.2.1 hs.2.2.1 ha hk h20 hc j hj hI hlink hsame hfin hin2 hdecl hd (hn v) (hfit v) d (fun H1 locs1 h1 h2 h3 => kk _ hz H1 locs1 cells slots ls ⟨h1, h2, h3, hs.2.2.2⟩ hl)
theorem k_putZ (o : CxOk g X) (hb : g.c.code = cc) {own ref C : String} {T : u_T} {N ci index : Nat} {Ts : List Cond} (hts : ∀ w ∈ Ts, w.before g.args g.s = true) (hin : ∀ w ∈ u_ws C T N, w ∈ Ts) (ty0 : Nat → FieldType) (hty : ∀ k, k < N → parseFieldDescriptor (T k).2.2.1 = some (ty0 k)) (hnm : ∀ a, a < N → ∀ b, b < N → a ≠ b → (T a).2.1 ≠ (T b).2.1) (hown : g.s.vm.findClass own = some g.m.cls) (hc : vwCl[ci]? = some (C, T, N)) (h20 : ci < 20) (j : Nat) (hj : j < N) (hI : (hpInt ci)[j]? = some true) (hlink : (Cond.fieldLink own index ref (T j).2.1 (T j).2.2.1).before g.args g.s = true) (hsame : ∀ z, g.s.fieldFound? (T j).1 (T j).2.1 (T j).2.2.1 = some z → g.s.fieldFound? ref (T j).2.1 (T j).2.2.1 = some z) (hfin : (T j).2.2.2 = false) {ty : FieldType} (hd : parseFieldDescriptor (T j).2.2.1 = some ty) (hn : narrow ty (.int 0) = .int 0 ∧ narrow ty (.int 1) = .int 1) (hfit : fits ty (.int 0) = true ∧ fits ty (.int 1) = true) (d : decode cc pc = .ok (.putfield index, 3)) {r : Option Nat} {v : Int32} {Z : HS → Prop} (h : wPutZ x ci j r v Z) (kk : ∀ y, Z y → KW g nL (pc + 3) lv st y) : KW g nL pc lv (.i v :: .q r :: st) x := by
  intro H locs cells slots ls hs hl
  obtain ⟨a, rfl, ha, hk, hv, hz⟩ := h
  exact hg_putI o.hx hb hts hin ty0 hty hnm hown o.hK hs.1 hs.2.1 hs.2.2.1 ha hk h20 hc j hj hI hlink hsame hfin hd (hv.elim (fun q => by rw [q]; exact hn.1) (fun q => by rw [q]; exact hn.2)) (hv.elim (fun q => by rw [q]; exact hfit.1) (fun q => by rw [q]; exact hfit.2)) d (fun H1 locs1 h1 h2 h3 => kk _ hz H1 locs1 cells slots ls ⟨h1, h2, h3, hs.2.2.2⟩ hl)
theorem k_putZF (o : CxOk g X) (hb : g.c.code = cc) {own ref C : String} {T : u_T} {N ci index : Nat} {Ts : List Cond} (hts : ∀ w ∈ Ts, w.before g.args g.s = true) (hin : ∀ w ∈ u_ws C T N, w ∈ Ts) (ty0 : Nat → FieldType) (hty : ∀ k, k < N → parseFieldDescriptor (T k).2.2.1 = some (ty0 k)) (hnm : ∀ a, a < N → ∀ b, b < N → a ≠ b → (T a).2.1 ≠ (T b).2.1) (hown : g.s.vm.findClass own = some g.m.cls) (hc : vwCl[ci]? = some (C, T, N)) (h20 : ci < 20) (j : Nat) (hj : j < N) (hI : (hpInt ci)[j]? = some true) (hlink : (Cond.fieldLink own index ref (T j).2.1 (T j).2.2.1).before g.args g.s = true) (hsame : ∀ z, g.s.fieldFound? (T j).1 (T j).2.1 (T j).2.2.1 = some z → g.s.fieldFound? ref (T j).2.1 (T j).2.2.1 = some z) (hfin : (T j).2.2.2 = true) (hin2 : g.meth.name = "<init>") (hdecl : (T j).1 = own) {ty : FieldType} (hd : parseFieldDescriptor (T j).2.2.1 = some ty) (hn : narrow ty (.int 0) = .int 0 ∧ narrow ty (.int 1) = .int 1) (hfit : fits ty (.int 0) = true ∧ fits ty (.int 1) = true) (d : decode cc pc = .ok (.putfield index, 3)) {r : Option Nat} {v : Int32} {Z : HS → Prop} (h : wPutZ x ci j r v Z) (kk : ∀ y, Z y → KW g nL (pc + 3) lv st y) : KW g nL pc lv (.i v :: .q r :: st) x := by
  intro H locs cells slots ls hs hl
  obtain ⟨a, rfl, ha, hk, hv, hz⟩ := h
  exact hg_putIF o.hx hb hts hin ty0 hty hnm hown o.hK hs.1 hs.2.1 hs.2.2.1 ha hk h20 hc j hj hI hlink hsame hfin hin2 hdecl hd (hv.elim (fun q => by rw [q]; exact hn.1) (fun q => by rw [q]; exact hn.2)) (hv.elim (fun q => by rw [q]; exact hfit.1) (fun q => by rw [q]; exact hfit.2)) d (fun H1 locs1 h1 h2 h3 => kk _ hz H1 locs1 cells slots ls ⟨h1, h2, h3, hs.2.2.2⟩ hl)
theorem k_putF (o : CxOk g X) (hb : g.c.code = cc) {own ref C : String} {T : u_T} {N ci index : Nat} {Ts : List Cond} (hts : ∀ w ∈ Ts, w.before g.args g.s = true) (hin : ∀ w ∈ u_ws C T N, w ∈ Ts) (ty0 : Nat → FieldType) (hty : ∀ k, k < N → parseFieldDescriptor (T k).2.2.1 = some (ty0 k)) (hnm : ∀ a, a < N → ∀ b, b < N → a ≠ b → (T a).2.1 ≠ (T b).2.1) (hown : g.s.vm.findClass own = some g.m.cls) (hc : vwCl[ci]? = some (C, T, N)) (h20 : ci < 20) (j : Nat) (hj : j < N) (hI : (hpInt ci)[j]? = some false) (hlink : (Cond.fieldLink own index ref (T j).2.1 (T j).2.2.1).before g.args g.s = true) (hsame : ∀ z, g.s.fieldFound? (T j).1 (T j).2.1 (T j).2.2.1 = some z → g.s.fieldFound? ref (T j).2.1 (T j).2.2.1 = some z) (hfin : (T j).2.2.2 = false) {ty : FieldType} (hd : parseFieldDescriptor (T j).2.2.1 = some ty) (hn : ∀ v, narrow ty (va_rf v) = va_rf v) (hfit : ∀ v, fits ty (va_rf v) = true) (d : decode cc pc = .ok (.putfield index, 3)) {r : Option Nat} {v : Option Nat} {Z : HS → Prop} (h : wPutF x ci j r v Z) (kk : ∀ y, Z y → KW g nL (pc + 3) lv st y) : KW g nL pc lv (.q v :: .q r :: st) x := by
  intro H locs cells slots ls hs hl
  obtain ⟨a, rfl, ha, hk, hz⟩ := h
  exact hg_putF o.hx hb hts hin ty0 hty hnm hown o.hK hs.1 hs.2.1 hs.2.2.1 ha hk h20 hc j hj hI hlink hsame hfin hd (hn v) (hfit v) d (fun H1 locs1 h1 h2 h3 => kk _ hz H1 locs1 cells slots ls ⟨h1, h2, h3, hs.2.2.2⟩ hl)
theorem k_putFF (o : CxOk g X) (hb : g.c.code = cc) {own ref C : String} {T : u_T} {N ci index : Nat} {Ts : List Cond} (hts : ∀ w ∈ Ts, w.before g.args g.s = true) (hin : ∀ w ∈ u_ws C T N, w ∈ Ts) (ty0 : Nat → FieldType) (hty : ∀ k, k < N → parseFieldDescriptor (T k).2.2.1 = some (ty0 k)) (hnm : ∀ a, a < N → ∀ b, b < N → a ≠ b → (T a).2.1 ≠ (T b).2.1) (hown : g.s.vm.findClass own = some g.m.cls) (hc : vwCl[ci]? = some (C, T, N)) (h20 : ci < 20) (j : Nat) (hj : j < N) (hI : (hpInt ci)[j]? = some false) (hlink : (Cond.fieldLink own index ref (T j).2.1 (T j).2.2.1).before g.args g.s = true) (hsame : ∀ z, g.s.fieldFound? (T j).1 (T j).2.1 (T j).2.2.1 = some z → g.s.fieldFound? ref (T j).2.1 (T j).2.2.1 = some z) (hfin : (T j).2.2.2 = true) (hin2 : g.meth.name = "<init>") (hdecl : (T j).1 = own) {ty : FieldType} (hd : parseFieldDescriptor (T j).2.2.1 = some ty) (hn : ∀ v, narrow ty (va_rf v) = va_rf v) (hfit : ∀ v, fits ty (va_rf v) = true) (d : decode cc pc = .ok (.putfield index, 3)) {r : Option Nat} {v : Option Nat} {Z : HS → Prop} (h : wPutF x ci j r v Z) (kk : ∀ y, Z y → KW g nL (pc + 3) lv st y) : KW g nL pc lv (.q v :: .q r :: st) x := by
  intro H locs cells slots ls hs hl
  obtain ⟨a, rfl, ha, hk, hz⟩ := h
  exact hg_putFF o.hx hb hts hin ty0 hty hnm hown o.hK hs.1 hs.2.1 hs.2.2.1 ha hk h20 hc j hj hI hlink hsame hfin hin2 hdecl hd (hn v) (hfit v) d (fun H1 locs1 h1 h2 h3 => kk _ hz H1 locs1 cells slots ls ⟨h1, h2, h3, hs.2.2.2⟩ hl)
theorem k_iald (o : CxOk g X) (hb : g.c.code = cc) (d : decode cc pc = .ok (.iaload, 1)) {r : Option Nat} {i : Int32} {Z : Int32 → Prop} (h : wAldJ x 20 r i Z) (kk : ∀ v, Z v → KW g nL (pc + 1) lv (.i v :: st) x) : KW g nL pc lv (.i i :: .q r :: st) x := by
  intro H locs cells slots ls hs hl
  obtain ⟨a, rfl, ha, hk, hin, hz⟩ := h
  exact hg_iald o.hx hb o.hK hs.1 0 ha hk rfl rfl (k_vpin hin) d (kk _ hz H locs cells slots ls hs hl)
theorem k_bald (o : CxOk g X) (hb : g.c.code = cc) (d : decode cc pc = .ok (.baload, 1)) {r : Option Nat} {i : Int32} {Z : Int32 → Prop} (h : wAldJ x 21 r i Z) (kk : ∀ v, Z v → KW g nL (pc + 1) lv (.i v :: st) x) : KW g nL pc lv (.i i :: .q r :: st) x := by
  intro H locs cells slots ls hs hl
  obtain ⟨a, rfl, ha, hk, hin, hz⟩ := h
  exact hg_bald o.hx hb o.hK hs.1 1 ha hk rfl rfl (k_vpin hin) d (kk _ hz H locs cells slots ls hs hl)
theorem k_zald (o : CxOk g X) (hb : g.c.code = cc) (d : decode cc pc = .ok (.baload, 1)) {r : Option Nat} {i : Int32} {Z : Int32 → Prop} (h : wAldJ x 22 r i Z) (kk : ∀ v, Z v → KW g nL (pc + 1) lv (.i v :: st) x) : KW g nL pc lv (.i i :: .q r :: st) x := by
  intro H locs cells slots ls hs hl
  obtain ⟨a, rfl, ha, hk, hin, hz⟩ := h
  exact hg_zald o.hx hb o.hK hs.1 2 ha hk rfl rfl (k_vpin hin) d (kk _ hz H locs cells slots ls hs hl)
theorem k_aald (o : CxOk g X) (hb : g.c.code = cc) {kd t0 : Nat} {C : String} (ht : (tyA g.cA)[t0]? = some (g.cA kd, .object C)) (h24 : ¬ kd < 24) (d : decode cc pc = .ok (.aaload, 1)) {r : Option Nat} {i : Int32} {Z : Option Nat → Prop} (h : wAldG x kd r i Z) (kk : ∀ v, Z v → KW g nL (pc + 1) lv (.q v :: st) x) : KW g nL pc lv (.i i :: .q r :: st) x := by
  intro H locs cells slots ls hs hl
  obtain ⟨a, rfl, ha, hk, hin, hz⟩ := h
  exact hg_aald o.hx hb o.hK hs.1 t0 ha hk h24 rfl ht (k_vpin hin) d (kk _ hz H locs cells slots ls hs hl)
theorem k_iast (o : CxOk g X) (hb : g.c.code = cc) (d : decode cc pc = .ok (.iastore, 1)) {r : Option Nat} {i v : Int32} {Z : HS → Prop} (h : wAstI x r i v Z) (kk : ∀ y, Z y → KW g nL (pc + 1) lv st y) : KW g nL pc lv (.i v :: .i i :: .q r :: st) x := by
  intro H locs cells slots ls hs hl
  obtain ⟨a, rfl, ha, hk, hin, hz⟩ := h
  exact hg_iast o.hx hb o.hK hs.1 hs.2.1 hs.2.2.1 0 ha hk rfl rfl (k_vpin hin) d (fun H1 locs1 h1 h2 h3 => kk _ hz H1 locs1 cells slots ls ⟨h1, h2, h3, hs.2.2.2⟩ hl)
theorem k_aast (o : CxOk g X) (hb : g.c.code = cc) {kd ci t0 : Nat} {rc : vw_C} (ht : (tyA g.cA)[t0]? = some (g.cA kd, .object rc.1)) (h24 : ¬ kd < 24) (h20 : ci < 20) (hc : vwCl[ci]? = some rc) (d : decode cc pc = .ok (.aastore, 1)) {r v : Option Nat} {i : Int32} {Z : HS → Prop} (h : wAstG x kd ci r i v Z) (kk : ∀ y, Z y → KW g nL (pc + 1) lv st y) : KW g nL pc lv (.q v :: .i i :: .q r :: st) x := by
  intro H locs cells slots ls hs hl
  obtain ⟨a, rfl, ha, hk, hin, hv, hz⟩ := h
  exact hg_aastQ o.hx hb o.hK hs.1 hs.2.1 hs.2.2.1 t0 ci ha hk h24 rfl ht hv h20 hc (k_vpin hin) d (fun H1 locs1 h1 h2 h3 => kk _ hz H1 locs1 cells slots ls ⟨h1, h2, h3, hs.2.2.2⟩ hl)
theorem k_bast (o : CxOk g X) (hb : g.c.code = cc) (d : decode cc pc = .ok (.bastore, 1)) {r : Option Nat} {i v : Int32} {Z : HS → Prop} (h : wAstB x r i v Z) (kk : ∀ y, Z y → KW g nL (pc + 1) lv st y) : KW g nL pc lv (.i v :: .i i :: .q r :: st) x := by
  intro H locs cells slots ls hs hl
  obtain ⟨a, rfl, ha, hk, hin, hz⟩ := h
  have hnar : vp_nar .byte v = v.toInt8.toInt32 := rfl
  obtain ⟨q0, h0⟩ := po_ix ha
  have e0 : hp g.cA x.k x.n x.I x.F x.J x.G a = .inl (g.cA 21, x.n a, .inl (x.J a)) := by rw [hp_j (by rw [hk]; decide) (by rw [hk]; decide), hk]
  have hset := hp_setJ (cA := g.cA) (n := x.n) (I := x.I) (F := x.F) (J := x.J) (G := x.G) (j := i.toNatClampNeg) (v := v.toInt8.toInt32) (show ¬ x.k a < 20 by rw [hk]; decide) (show x.k a < 23 by rw [hk]; decide)
  rw [hk] at hset
  have hs2 := po_set (E := hp g.cA x.k x.n x.I x.F x.J x.G) (e := .inl (g.cA 21, x.n a, .inl (upd (x.J a) i.toNatClampNeg (v.toInt8.toInt32)))) (po_nd hs.2.1) h0
  rw [hset] at hs2
  refine va_bast o.hx hb o.hK hs.1 hs.2.1 hs.2.2.1 q0 1 (by rw [po_nth h0, e0]) rfl (k_vpin hin) d (fun H1 locs1 h1 h2 h3 => ?_)
  rw [hnar, hs2] at h1 h2
  exact kk _ hz H1 locs1 cells slots ls ⟨h1, h2, h3, hs.2.2.2⟩ hl
theorem k_zast (o : CxOk g X) (hb : g.c.code = cc) (d : decode cc pc = .ok (.bastore, 1)) {r : Option Nat} {i v : Int32} {Z : HS → Prop} (h : wAstZ x r i v Z) (kk : ∀ y, Z y → KW g nL (pc + 1) lv st y) : KW g nL pc lv (.i v :: .i i :: .q r :: st) x := by
  intro H locs cells slots ls hs hl
  obtain ⟨a, rfl, ha, hk, hin, hv, hz⟩ := h
  have hnar : vp_nar .boolean v = v := by rcases hv with rfl | rfl <;> decide
  obtain ⟨q0, h0⟩ := po_ix ha
  have e0 : hp g.cA x.k x.n x.I x.F x.J x.G a = .inl (g.cA 22, x.n a, .inl (x.J a)) := by rw [hp_j (by rw [hk]; decide) (by rw [hk]; decide), hk]
  have hset := hp_setJ (cA := g.cA) (n := x.n) (I := x.I) (F := x.F) (J := x.J) (G := x.G) (j := i.toNatClampNeg) (v := v) (show ¬ x.k a < 20 by rw [hk]; decide) (show x.k a < 23 by rw [hk]; decide)
  rw [hk] at hset
  have hs2 := po_set (E := hp g.cA x.k x.n x.I x.F x.J x.G) (e := .inl (g.cA 22, x.n a, .inl (upd (x.J a) i.toNatClampNeg (v)))) (po_nd hs.2.1) h0
  rw [hset] at hs2
  refine va_zast o.hx hb o.hK hs.1 hs.2.1 hs.2.2.1 q0 2 (by rw [po_nth h0, e0]) rfl (k_vpin hin) d (fun H1 locs1 h1 h2 h3 => ?_)
  rw [hnar, hs2] at h1 h2
  exact kk _ hz H1 locs1 cells slots ls ⟨h1, h2, h3, hs.2.2.2⟩ hl
theorem k_alen (o : CxOk g X) (hb : g.c.code = cc) {kd t0 : Nat} {ty : FieldType} (h20 : ¬ kd < 20) (ht : (tyA g.cA)[t0]? = some (g.cA kd, ty)) (d : decode cc pc = .ok (.arraylength, 1)) {r : Option Nat} {Z : Int32 → Prop} (h : wLen x kd r Z) (kk : ∀ v, Z v → KW g nL (pc + 1) lv (.i v :: st) x) : KW g nL pc lv (.q r :: st) x := by
  intro H locs cells slots ls hs hl
  obtain ⟨a, rfl, ha, hk, hz⟩ := h
  obtain ⟨q0, h0⟩ := po_ix ha
  have e0 : ∃ y : vp_A, hp g.cA x.k x.n x.I x.F x.J x.G a = .inl (g.cA kd, y) ∧ y.1 = x.n a := by
    unfold hp
    rw [hk, if_neg h20]
    split
    · exact ⟨_, rfl, rfl⟩
    · split
      · exact ⟨_, rfl, rfl⟩
      · exact ⟨_, rfl, rfl⟩
  obtain ⟨y, e1, e2⟩ := e0
  exact va_alen (x := y) o.hx hb o.hK hs.1 q0 t0 (by rw [po_nth h0, e1]) ht (by rw [e2]) d (kk _ hz H locs cells slots ls hs hl)
theorem k_new (o : CxOk g X) (hb : g.c.code = cc) {own C : String} {T : u_T} {N ci index : Nat} {Ts : List Cond} (hts : ∀ w ∈ Ts, w.before g.args g.s = true) (hin : ∀ w ∈ u_ws C T N, w ∈ Ts) (ty : Nat → FieldType) (hty : ∀ k, k < N → parseFieldDescriptor (T k).2.2.1 = some (ty k)) (hown : g.s.vm.findClass own = some g.m.cls) (hcl : (Cond.classLink own index C).before g.args g.s = true) (hinst : (Cond.instantiable C N).before g.args g.s = true) (hini : (Cond.initialized C).before g.args g.s = true) (hc : vwCl[ci]? = some (C, T, N)) (h20 : ci < 20) (hfs : ∀ j, j < N → defaultValue (ty j) = vp_V (hpFs ci (fun _ => 0) (fun _ => none)) j) (d : decode cc pc = .ok (.new index, 3)) {Z : Option Nat → HS → Prop} (h : wNew x ci N Z) (kk : ∀ q y, Z (some q) y → KW g nL (pc + 3) lv (.q (some q) :: st) y) : KW g nL pc lv st x := by
  intro H locs cells slots ls hs hl
  obtain ⟨hc1, hz1, hz⟩ := h
  obtain ⟨hP, hD, hS, he1, he2⟩ := hs
  exact hg_new o.hx hb hts hin ty hty hown hcl hinst hini o.hK hP hD hS o.hA hc h20 hfs (by omega) (by omega) d (fun q H1 hq h1 h2 h3 => kk q _ (hz q hq) H1 locs (cells + 1) (slots + N) ls ⟨h1, h2, h3, by show cells + 1 + (x.c - 1) = _; omega, by show slots + N + (x.z - N) = _; omega⟩ hl)
theorem k_newJ (o : CxOk g X) (hb : g.c.code = cc) {atype : ArrayType} (harr : (Cond.arrayClass (newarray.typeOf atype)).before g.args g.s = true) {ty : FieldType} (hty : newarray.typeOf atype = ty) {kd t0 : Nat} (h20 : ¬ kd < 20) (h24 : kd < 23) (ht : (tyA g.cA)[t0]? = some (g.cA kd, ty)) (hcell : ∀ (N : Nat) (cA : ClassId), vp_cell cA (N, .inl (fun _ => 0)) = arrV cA N (fun _ => defaultValue ty)) (hby : componentBytes ty ≤ 8) (d : decode cc pc = .ok (.newarray atype, 2)) {len : Int32} {Z : Option Nat → HS → Prop} (h : wNewJ x kd len Z) (kk : ∀ q y, Z (some q) y → KW g nL (pc + 2) lv (.q (some q) :: st) y) : KW g nL pc lv (.i len :: st) x := by
  intro H locs cells slots ls hs hl
  obtain ⟨h0, hb0, hc1, hz1, hz⟩ := h
  obtain ⟨hP, hD, hS, he1, he2⟩ := hs
  have h00 : (0 : Int32).toInt = 0 := by decide
  refine hg_newJ (N := len.toInt.toNat) o.hx hb harr hty o.hK hP hD hS o.hA t0 h20 h24 ht (hcell _) (by rw [Int32.lt_iff_toInt_lt, h00]; omega) rfl (Nat.le_trans (Nat.mul_le_mul (show len.toInt.toNat ≤ 100000 by omega) hby) (by decide)) (by omega) (by omega) d (fun q H1 hq h1 h2 h3 => kk q _ (hz q hq) H1 locs (cells + 1) (slots + len.toInt.toNat) ls ⟨h1, h2, h3, by show cells + 1 + (x.c - 1) = _; omega, by show slots + len.toInt.toNat + (x.z - len.toInt.toNat) = _; omega⟩ hl)
theorem k_newG (o : CxOk g X) (hb : g.c.code = cc) {own C : String} {index : Nat} (hown : g.s.vm.findClass own = some g.m.cls) (hclink : (Cond.classLink own index C).before g.args g.s = true) (hover : va_AO C g.s) {kd t0 : Nat} (h24 : ¬ kd < 24) (ht : (tyA g.cA)[t0]? = some (g.cA kd, .object C)) (d : decode cc pc = .ok (.anewarray index, 3)) {len : Int32} {Z : Option Nat → HS → Prop} (h : wNewG x kd len Z) (kk : ∀ q y, Z (some q) y → KW g nL (pc + 3) lv (.q (some q) :: st) y) : KW g nL pc lv (.i len :: st) x := by
  intro H locs cells slots ls hs hl
  obtain ⟨h0, hb0, hc1, hz1, hz⟩ := h
  obtain ⟨hP, hD, hS, he1, he2⟩ := hs
  have h00 : (0 : Int32).toInt = 0 := by decide
  refine hg_newG (N := len.toInt.toNat) o.hx hb hown hclink hover o.hK hP hD hS o.hA t0 h24 ht (by rw [Int32.lt_iff_toInt_lt, h00]; omega) rfl (by omega) (by omega) (by omega) d (fun q H1 hq h1 h2 h3 => kk q _ (hz q hq) H1 locs (cells + 1) (slots + len.toInt.toNat) ls ⟨h1, h2, h3, by show cells + 1 + (x.c - 1) = _; omega, by show slots + len.toInt.toNat + (x.z - len.toInt.toNat) = _; omega⟩ hl)
theorem k_copy (o : CxOk g X) (hb : g.c.code = cc) (hml : g.c.maxLocals = nL) {own : String} {index : Nat} (hown : g.s.vm.findClass own = some g.m.cls) (hlink : (Cond.methodLink own index arraycopyName).before g.args g.s = true) (hnat : (Cond.native arraycopyName).before g.args g.s = true) (hstat : (Cond.static arraycopyName).before g.args g.s = true) (hini : (Cond.initialized "java/lang/System").before g.args g.s = true) (hf : 1 ≤ g.R.frames) (hlo : st.length + (nativeFrameWords "java/lang/System" "arraycopy" 5 + 11) ≤ g.R.locals) (d : decode cc pc = .ok (.invokestatic index, 3)) {r t : Option Nat} {i0 i N : Int32} {Z : HS → Prop} (h : wCopy x r i0 t i N Z) (kk : ∀ y, Z y → KW g nL (pc + 3) lv st y) : KW g nL pc lv (.i N :: .i i :: .q t :: .i i0 :: .q r :: st) x := by
  intro H locs cells slots ls hs hl
  obtain ⟨a, b, rfl, rfl, hab, ha, hb0, hka, hkb, h0, hN, hi, h1, h2, hz⟩ := h
  obtain ⟨q0, h0a⟩ := po_ix ha
  obtain ⟨q1, h0b⟩ := po_ix hb0
  have ea : hp g.cA x.k x.n x.I x.F x.J x.G a = .inl (g.cA 20, x.n a, .inl (x.J a)) := by rw [hp_j (by rw [hka]; decide) (by rw [hka]; decide), hka]
  have eb : hp g.cA x.k x.n x.I x.F x.J x.G b = .inl (g.cA 20, x.n b, .inl (x.J b)) := by rw [hp_j (by rw [hkb]; decide) (by rw [hkb]; decide), hkb]
  have h00 : (0 : Int32).toInt = 0 := by decide
  have hset : va_up (hp g.cA x.k x.n x.I x.F x.J x.G) b (.inl (g.cA 20, x.n b, .inl (va_cpy (x.J a) (x.J b) i0.toNatClampNeg i.toNatClampNeg N.toNatClampNeg))) = hp g.cA x.k x.n x.I x.F (fun q j => if q = b ∧ i.toInt.toNat ≤ j ∧ j < i.toInt.toNat + N.toInt.toNat then x.J a (i0.toInt.toNat + (j - i.toInt.toNat)) else x.J q j) x.G := by
    funext y
    by_cases hy : y = b
    · subst hy
      rw [va_up_self, hp_j (by rw [hkb]; decide) (by rw [hkb]; decide), hkb]
      have : va_cpy (x.J a) (x.J y) i0.toNatClampNeg i.toNatClampNeg N.toNatClampNeg = fun j => if y = y ∧ i.toInt.toNat ≤ j ∧ j < i.toInt.toNat + N.toInt.toNat then x.J a (i0.toInt.toNat + (j - i.toInt.toNat)) else x.J y j := by
        funext j
        simp only [true_and]
        rfl
      rw [this]
    · rw [va_up_ne _ _ hy]
      simp only [hp, hy, false_and, if_false]
  have hs2 := po_set (E := hp g.cA x.k x.n x.I x.F x.J x.G) (e := .inl (g.cA 20, x.n b, .inl (va_cpy (x.J a) (x.J b) i0.toNatClampNeg i.toNatClampNeg N.toNatClampNeg))) (po_nd hs.2.1) h0b
  rw [hset] at hs2
  refine va_copyi (ty := .int) (f := x.J a) (g := x.J b) (c0 := g.cA 20) (c1 := g.cA 20) (n0 := x.n a) (n1 := x.n b) o.hx hb (by rw [hml]; exact hl.1.symm) hown hlink hnat hstat hini o.hK hs.1 hs.2.1 hs.2.2.1 q0 q1 0 0 (by rw [po_nth h0a, ea]) (by rw [po_nth h0b, eb]) rfl rfl rfl (by rw [Int32.lt_iff_toInt_lt, h00]; omega) (by rw [Int32.lt_iff_toInt_lt, h00]; omega) (by rw [Int32.lt_iff_toInt_lt, h00]; omega) (by show i0.toInt.toNat + N.toInt.toNat ≤ _; omega) (by show i.toInt.toNat + N.toInt.toNat ≤ _; omega) (fun _ _ => rfl) hf (by rw [lq_cats]; exact hlo) d (fun H1 locs1 h1 h2 h3 => ?_)
  rw [hs2] at h1 h2
  exact kk _ hz H1 locs1 cells slots ls ⟨h1, h2, h3, hs.2.2.2⟩ hl
end KOB
