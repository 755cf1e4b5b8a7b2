/-! A THROW OF A CALLEE, CAUGHT HERE: the table's rows are looked at one by one; each names a class by an entry that links (it may be open yet). -/
def tx_pass (pl : Platform) (s₀ : State) (d : ClassId) (pc : Nat) (k : ClassId) (y : ExceptionTableEntry) : Prop :=
  covers y pc = false ∨ (y.catchType ≠ 0 ∧ ∃ c, s₀.vm.ClassLinks pl d y.catchType c ∧ s₀.vm.assignable k c = false)
def tx_take (pl : Platform) (s₀ : State) (d : ClassId) (k : ClassId) (y : ExceptionTableEntry) : Prop :=
  y.catchType = 0 ∨ (y.catchType ≠ 0 ∧ ∃ c, s₀.vm.ClassLinks pl d y.catchType c ∧ s₀.vm.assignable k c = true)
/-- one row that covers the pc: its entry is noted, then it takes the object or the search goes on -/
theorem tx_row {e : Env} {f : JFrame} {a : Addr} {s : State} {y : ExceptionTableEntry} {t : List ExceptionTableEntry} {c : ClassId} {cell : Cell} (hy : covers y f.pc = true) (h0 : y.catchType ≠ 0)
    (hl : s.vm.ClassLinks e.platform f.method.cls y.catchType c) (hcell : s.heap[a]? = some cell) (hobj : ∀ k, cell.vm ≠ .statics k) (hk : ∃ k, s.vm.classes[cell.cls]? = some k) (hc : ∃ k, s.vm.classes[c]? = some k)
    (Q : Handler → Pre) (E : CtlPost) (d : Bool) (acts : List Action) :
    wp (findHandler.go f a (y :: t)) Q E e d acts s ↔
      (if s.vm.assignable cell.cls c = true then Q (.found y.handlerPc) d acts (s.setVm (s.vm.noted f.method.cls y.catchType (.cls c)))
       else wp (findHandler.go f a t) Q E e d acts (s.setVm (s.vm.noted f.method.cls y.catchType (.cls c)))) := by
  simp only [covers] at hy
  obtain ⟨g1, g2⟩ := (resolveClass_links e.toSetting hl).op (op := VmOp.resolveClass f.method.cls y.catchType) rfl
  have hal : s.vm.Alike (s.vm.noted f.method.cls y.catchType (.cls c)) := (Vm.Alike.refl s.vm).noted _ _ _
  obtain ⟨k1, hk1⟩ := hk
  obtain ⟨k2, hk2⟩ := hc
  obtain ⟨k3, hk3, -⟩ := hal.2.2 _ _ hk1
  obtain ⟨k4, hk4, -⟩ := hal.2.2 _ _ hk2
  have has : (s.vm.noted f.method.cls y.catchType (.cls c)).assignable cell.cls c = s.vm.assignable cell.cls c := hal.assignable _ _
  cases hb : s.vm.assignable cell.cls c with
  | true =>
    rw [hb] at has
    simp [findHandler.go, hy, h0, g1, g2, hcell, hobj, hk3, hk4, has, VmOp.dirties, VmOp.acts]
  | false =>
    rw [hb] at has
    simp [findHandler.go, hy, h0, g1, g2, hcell, hobj, hk3, hk4, has, VmOp.dirties, VmOp.acts]
theorem tx_rows {e : Env} {s₀ : State} {f : JFrame} {a : Addr} {cell : Cell} (hobj : ∀ k, cell.vm ≠ .statics k) (hk0 : ∃ k, s₀.vm.classes[cell.cls]? = some k)
    (y : ExceptionTableEntry) (suf : List ExceptionTableEntry) (hy : covers y f.pc = true) (hend : tx_take e.platform s₀ f.method.cls cell.cls y) :
    ∀ (ps : List ExceptionTableEntry) (S : State), s₀.WarmedH S.vm → S.heap[a]? = some cell → (∀ z ∈ ps, tx_pass e.platform s₀ f.method.cls f.pc cell.cls z) →
      ∃ vm', s₀.WarmedH vm' ∧ ∀ (Q : Handler → Pre) (E : CtlPost) (d : Bool) (acts : List Action), wp (findHandler.go f a (ps ++ y :: suf)) Q E e d acts S ↔ Q (.found y.handlerPc) d acts (S.setVm vm') := by
  obtain ⟨k0, hk0⟩ := hk0
  intro ps
  induction ps with
  | nil =>
    intro S hW hcell _
    obtain ⟨k1, hk1, -⟩ := hW.alike.2.2 _ _ hk0
    rcases hend with h0 | ⟨h0, c, hl, hfit⟩
    · exact ⟨S.vm, hW, fun Q E d acts => by rw [List.nil_append, W.findHandler_go_any hy h0, State.setVm_self]⟩
    · obtain ⟨dk, _, _, kt, hd, _, _, _, _, hkt, _, hopen⟩ := hl.here
      obtain ⟨k2, hk2, -⟩ := hW.alike.2.2 _ _ hkt
      refine ⟨_, hW.noted hd hopen (State.rightAt_cls hl), fun Q E d acts => ?_⟩
      rw [List.nil_append, tx_row hy h0 (hW.classLinks hl) hcell hobj ⟨k1, hk1⟩ ⟨k2, hk2⟩, if_pos (by rw [hW.alike.assignable]; exact hfit)]
  | cons z zs ih =>
    intro S hW hcell hpass
    obtain ⟨k1, hk1, -⟩ := hW.alike.2.2 _ _ hk0
    have hrest : ∀ q ∈ zs, tx_pass e.platform s₀ f.method.cls f.pc cell.cls q := fun q hq => hpass q (List.mem_cons_of_mem _ hq)
    rcases Bool.eq_false_or_eq_true (covers z f.pc) with hcov | hcov
    · rcases hpass z List.mem_cons_self with h | ⟨h0, c, hl, hno⟩
      · rw [h] at hcov; cases hcov
      · obtain ⟨dk, _, _, kt, hd, _, _, _, _, hkt, _, hopen⟩ := hl.here
        obtain ⟨k2, hk2, -⟩ := hW.alike.2.2 _ _ hkt
        obtain ⟨vm', hW', hq⟩ := ih (S.setVm (S.vm.noted f.method.cls z.catchType (.cls c))) (hW.noted hd hopen (State.rightAt_cls hl)) hcell hrest
        refine ⟨vm', hW', fun Q E d acts => ?_⟩
        rw [List.cons_append, tx_row hcov h0 (hW.classLinks hl) hcell hobj ⟨k1, hk1⟩ ⟨k2, hk2⟩, if_neg (by rw [hW.alike.assignable, hno]; decide)]
        exact hq Q E d acts
    · obtain ⟨vm', hW', hq⟩ := ih S hW hcell hrest
      refine ⟨vm', hW', fun Q E d acts => ?_⟩
      rw [List.cons_append, W.findHandler_go_skip hcov]
      exact hq Q E d acts
theorem tx_caught {p : Program} {l : Launch} {e : Env} {R : Room} {s : State} {m : MethodId} {args : Array Value} {below : List Frame} {meth : Method} {c : Code} {T : State} {locs : List Loc} {cells slots : Nat}
    (X : Stand p l e R s m args below meth c T locs cells slots) (a : Addr) {g : JFrame} (hg : g.method = m) {s₁ : State} (hcome : Steps p.tables e below s₁ ((T.setTop g).pushFrame (.throwing a)))
    {cell : Cell} (hcell : T.heap[a]? = some cell) (hobj : cell.vm.isStatics = false) (hk0 : ∃ k, s.vm.classes[cell.cls]? = some k)
    (ps : List ExceptionTableEntry) (y : ExceptionTableEntry) (suf : List ExceptionTableEntry) (hsplit : c.exceptionTable.toList = ps ++ y :: suf)
    (hpass : ∀ z ∈ ps, tx_pass e.platform s m.cls g.pc cell.cls z) (hy : covers y g.pc = true) (hend : tx_take e.platform s m.cls cell.cls y) :
    ∃ vm', Stand p l e R s m args below meth c (T.setVm vm') locs cells slots ∧ Steps p.tables e below s₁ ((T.setVm vm').setTop { g with pc := y.handlerPc, stack := [.ref a] }) := by
  subst hg
  obtain ⟨vm', hW', hq⟩ := tx_rows (e := e) (f := g) (a := a) (VmData.ne_statics_of hobj) hk0 y suf hy hend ps ((T.setTop g).pushFrame (.throwing a)) X.warmed hcell hpass
  refine ⟨vm', X.noted hW', hcome.trans ?_⟩
  have h : At T g.method c below := X.here
  obtain ⟨hgo, hw⟩ := h.throwing a
  refine Steps.head hgo hw ?_
  have hstep : (stepThrowing e ((T.setTop g).pushFrame (.throwing a)) a (.java g :: T.frames.tail)).Is ((((T.setTop g).pushFrame (.throwing a)).setVm vm').setFrames (.java { g with pc := y.handlerPc, stack := [.ref a] } :: T.frames.tail)) [] := by
    simp only [stepThrowing, searchFrame, vmDo]
    generalize hr : Sem.go _ e false [] ((T.setTop g).pushFrame (.throwing a)) = res
    have hm' : ((T.setTop g).pushFrame (.throwing a)).vm.method? g.method = some meth := X.method'
    obtain ⟨as, rfl, ha⟩ := Sem.eq_ok_of hr (a := Handler.found y.handlerPc) (s' := ((T.setTop g).pushFrame (.throwing a)).setVm vm') (acts' := []) (by
      have hF : ∀ (Q : Handler → Pre) (E : CtlPost) (d : Bool) (acts : List Action), wp (findHandler g a) Q E e d acts ((T.setTop g).pushFrame (.throwing a)) ↔ Q (.found y.handlerPc) d acts (((T.setTop g).pushFrame (.throwing a)).setVm vm') := fun Q E d acts => by
        rw [W.findHandler_eq hm' X.code, hsplit]; exact hq Q E d acts
      simp [hF _ _ _ _])
    exact ⟨rfl, ha⟩
  rw [stepThread_throwing (frames_entered h.top _), hstep.1]
  obtain ⟨g₀, hg0⟩ := Option.isSome_iff_exists.mp h.top
  obtain ⟨r, hr⟩ := State.topJava?_eq_some.mp hg0
  have hr' : (T.setVm vm').frames = .java g₀ :: r := hr
  rw [State.setTop_of_frames _ hr', hr, List.tail_cons, State.pushFrame, State.setTop_of_frames _ hr]
  have e1 : ∀ (u : State) (F G : List Frame), ((u.setFrames F).setVm vm').setFrames G = (u.setVm vm').setFrames G := fun u F G => by
    have h1 : (u.setFrames F).setVm vm' = (u.setVm vm').setFrames F := rfl
    rw [h1, State.setFrames_setFrames]
  rw [e1, e1]
  exact Steps.refl _
