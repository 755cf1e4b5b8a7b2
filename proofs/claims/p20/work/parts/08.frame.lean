/-! WHAT EVERY CONTRACT HERE IS SAID IN: the tables' words that aren't in the lists of words (private links of nest mates, casts, arrays over classes, texts), the two statics of Throwable; worlds before and behind a method -/
abbrev eIA : String := "java/lang/IllegalArgumentException"
abbrev eNE : String := "java/util/NoSuchElementException"
abbrev eIS : String := "java/lang/IllegalStateException"
abbrev eIB : String := "java/lang/IndexOutOfBoundsException"
abbrev eUO : String := "java/lang/UnsupportedOperationException"
abbrev eAE : String := "java/lang/ArithmeticException"
abbrev eSup : List String := ["java/lang/RuntimeException", "java/lang/Exception"]
def tx_T (own : String) (k : Nat) (tx : String) (U : State) : Prop := ∃ a : Nat, vk_R own k tx a U
def tx_Nest (U : State) : Prop := va_Nw (.methodLinkNest RX11 19 yX9_init RX11) U ∧ va_Nw (.methodLinkNest RX9 25 yX3_init RX11) U ∧ va_Nw (.methodLinkNest RX11 37 yX5_init RX11) U ∧ va_Nw (.methodLinkNest RX6 21 yX2_init RX11) U ∧ va_Nw (.methodLinkNest RX8 11 yX7_init RX11) U ∧ va_Nw (.methodLinkNest RX8 34 yX5_init RX11) U ∧ va_Nw (.methodLinkNest RX1 26 yX11_isIn RX11) U ∧ va_Nw (.methodLinkNest RX9 43 yX1_init RX11) U ∧ va_Nw (.methodLinkNest RX10 97 yX11_isIn RX11) U ∧ va_Nw (.methodLinkNest RX6 109 yX11_isIn RX11) U ∧ va_Nw (.methodLinkNest RX8 101 yX11_isIn RX11) U
def tx_Cast (U : State) : Prop := va_Nw (.castable eIA eIA) U ∧ va_Nw (.castable eNE eNE) U ∧ va_Nw (.castable eIS eIS) U ∧ va_Nw (.castable eIB eIB) U ∧ va_Nw (.castable eUO eUO) U ∧ va_Nw (.castable eAE eAE) U
def tx_Over (U : State) : Prop := va_AO RX10 U ∧ va_AO RX1 U ∧ va_AO RX5 U ∧ va_AO RX2 U ∧ va_AO RX4 U ∧ va_AO RX0 U
def tx_Not (U : State) : Prop := va_Nc eNE eIA U ∧ va_Nc eUO eIA U ∧ va_Nc eIB eIA U ∧ va_Nc eIA eNE U ∧ va_Nc eIS eNE U ∧ va_Nc eIS eIA U ∧ va_Nc eIB eNE U ∧ va_Nc eIB eIS U ∧ va_Nc eUO eNE U ∧ va_Nc eIS eUO U ∧ va_Nc eAE eIA U ∧ va_Nc eAE eUO U
def tx_Txt (U : State) : Prop := tx_T RX11 62 "the tape is full" U ∧ tx_T RX11 338 "a number out of range" U ∧ tx_T RX11 81 "all tables are there" U ∧ tx_T RX11 334 "no such table" U ∧ tx_T RX11 104 "two facts have the same" U ∧ tx_T RX11 112 "the table has all its keys" U ∧ tx_T RX11 120 "a fact has the same in a key" U ∧ tx_T RX11 127 "full" U ∧ tx_T RX11 168 "all cursors are open" U ∧ tx_T RX11 332 "no such cursor" U ∧ tx_T RX11 182 "no such fact" U ∧ tx_T RX11 217 "all marks are there" U ∧ tx_T RX11 222 "there is no mark" U ∧ tx_T RX11 242 "a cursor or a mark is there" U ∧ tx_T RX11 267 "there is none such" U ∧ tx_T RX6 133 "the question is broken" U ∧ tx_T RX8 124 "too many were looked at" U
def tx_Dec (U : State) : Prop := va_Nw (.declares (Bundle.initS "java/lang/RuntimeException")) U ∧ va_Nw (.declares (Bundle.initS "java/lang/Exception")) U ∧ va_Nw (.declares (Bundle.initS Bundle.tN)) U
def tx_Sv (U : State) : Prop := tx_Nest U ∧ tx_Cast U ∧ tx_Over U ∧ tx_Not U ∧ tx_Txt U ∧ tx_Dec U
def tx_St (A : Nat → Prop) (U : State) : Prop := vx_Zq Bundle.tN "UNASSIGNED_STACK" Bundle.steD A U U.heap ∧ vx_Zq Bundle.tN "SUPPRESSED_SENTINEL" Bundle.listD A U U.heap ∧ tx_Sv U
theorem tx_T.warm {own tx : String} {k : Nat} {s U : State} (hW : s.WarmedH U.vm) (h : tx_T own k tx s) : tx_T own k tx U := by
  obtain ⟨a, h⟩ := h
  exact ⟨a, vk_R.warm hW h⟩
theorem tx_Sv.warm {s U : State} (hW : s.WarmedH U.vm) (h : tx_Sv s) : tx_Sv U := by
  obtain ⟨⟨a1, a2, a3, a4, a5, a6, a7, a8, a9, a10, a11⟩, ⟨b1, b2, b3, b4, b5, b6⟩, ⟨c1, c2, c3, c4, c5, c6⟩, ⟨d1, d2, d3, d4, d5, d6, d7, d8, d9, d10, d11, d12⟩, ⟨e1, e2, e3, e4, e5, e6, e7, e8, e9, e10, e11, e12, e13, e14, e15, e16, e17⟩, ⟨f1, f2, f3⟩⟩ := h
  exact ⟨⟨va_Nw.warmM hW a1, va_Nw.warmM hW a2, va_Nw.warmM hW a3, va_Nw.warmM hW a4, va_Nw.warmM hW a5, va_Nw.warmM hW a6, va_Nw.warmM hW a7, va_Nw.warmM hW a8, va_Nw.warmM hW a9, va_Nw.warmM hW a10, va_Nw.warmM hW a11⟩,
    ⟨va_Nw.warmC hW b1, va_Nw.warmC hW b2, va_Nw.warmC hW b3, va_Nw.warmC hW b4, va_Nw.warmC hW b5, va_Nw.warmC hW b6⟩,
    ⟨va_AO.moved hW.alike c1, va_AO.moved hW.alike c2, va_AO.moved hW.alike c3, va_AO.moved hW.alike c4, va_AO.moved hW.alike c5, va_AO.moved hW.alike c6⟩,
    ⟨va_Nc.moved hW.alike d1, va_Nc.moved hW.alike d2, va_Nc.moved hW.alike d3, va_Nc.moved hW.alike d4, va_Nc.moved hW.alike d5, va_Nc.moved hW.alike d6, va_Nc.moved hW.alike d7, va_Nc.moved hW.alike d8, va_Nc.moved hW.alike d9, va_Nc.moved hW.alike d10, va_Nc.moved hW.alike d11, va_Nc.moved hW.alike d12⟩,
    ⟨e1.warm hW, e2.warm hW, e3.warm hW, e4.warm hW, e5.warm hW, e6.warm hW, e7.warm hW, e8.warm hW, e9.warm hW, e10.warm hW, e11.warm hW, e12.warm hW, e13.warm hW, e14.warm hW, e15.warm hW, e16.warm hW, e17.warm hW⟩, ⟨va_Nw.warmD hW f1, va_Nw.warmD hW f2, va_Nw.warmD hW f3⟩⟩
theorem tx_St.at {A A1 : Nat → Prop} {s U : State} {H : Heap} {locs : List Loc} (h : tx_St A s) (hS : va_S A s.heap H locs) (hU : U.heap = H) (hW : s.WarmedH U.vm) (hF : ∀ q, A1 q → A q) : tx_St A1 U := by
  refine ⟨?_, ?_, h.2.2.warm hW⟩
  · rw [hU]; exact ((h.1.kept hS.2.1).narrow hF).moved hW.alike
  · rw [hU]; exact ((h.2.1.kept hS.2.1).narrow hF).moved hW.alike
theorem tx_St.calling {A : Nat → Prop} {U : State} {g : JFrame} {mk : MethodId} {a : Array Value} (h : tx_St A U) : tx_St A (U.calling g mk a) := h.at (H := U.heap) (locs := []) va_S.rf rfl (State.WarmedH.refl U) (fun _ h => h)
theorem tx_fm {α β : Type} {f : α → Option β} {is : List α} {w : List β} (h : is.map f = w.map some) : is.filterMap f = w := by
  have h2 := congrArg (List.filterMap id) h
  rw [List.filterMap_map, List.filterMap_map] at h2
  have h3 : List.filterMap (id ∘ some) w = w := by
    show List.filterMap some w = w
    exact List.filterMap_some
  rw [h3] at h2
  exact h2
/-- the world before a method -/
abbrev ct_P (D : va_G) (w : va_W) (ty : List (ClassId × FieldType)) (sz : Nat) (U : State) : Prop := U.heap.size = sz ∧ va_P D vwCl w U.heap ∧ va_K D vwCl ty U ∧ va_D (fun _ => True) w ∧ tx_St (va_A w sz) U
/-- the world behind it -/
abbrev ct_B (D : va_G) (A : Nat → Prop) (w : va_W) (ty : List (ClassId × FieldType)) (t : State) : Prop := va_P D vwCl w t.heap ∧ va_K D vwCl ty t ∧ va_D A w
/-- it throws a thing of the class E, of which bx is so -/
def tx_X (bx : String → Prop) (A : Nat → Prop) : String → State → State → Prop := vx_X (S := Unit) (fun _ => True) (fun E _ _ => bx E) A
theorem ct_blind {av : List Value} {D : va_G} {w : va_W} {ty : List (ClassId × FieldType)} {sz : Nat} : FrameBlind (va_Pc av (ct_P D w ty sz)) := by
  intro a U g mk h
  obtain ⟨h0, h1, h2, h3, h4, h5⟩ := h
  exact ⟨h0, h1, h2, va_K.moved (u := U) (U := U.calling g mk a) (Vm.Alike.refl U.vm) h3, h4, h5.calling⟩
section CTA
variable {p : Program} {l : Launch} {e : Env} {R : Room} {s : State} {m : MethodId} {args : Array Value} {below : List Frame} {meth : Method} {c : Code} {H : Heap} {locs : List Loc} {cells slots : Nat} {Q : State → Prop}
variable {pc : Nat} {ls : Array Slot} {rest st0 : List Value} {a : Array Value} {A : Nat → Prop} {mc ms : Nat} {D : va_G} {ws wc wr : va_W} {tys tyc tyr : List (ClassId × FieldType)}
theorem ct_pre {As : List Value} (hP : va_P D vwCl ws H) (hD : va_D A ws) (hK : va_K D vwCl tys s) (hS : va_S A s.heap H locs) (hA : ∀ q, s.heap.size ≤ q → A q) (hZ : tx_St A s) (isC isT : List Nat) (hC : isC.map (fun i => ws[i]?) = wc.map some) (hn : va_nd isC = true) (hT : isT.map (fun i => tys[i]?) = tyc.map some) :
    PreS s H (va_Pc As (ct_P D wc tyc H.size)) As :=
  ⟨ct_blind, fun U hU hW => ⟨rfl, by rw [hU], by rw [hU]; exact hP.sub isC (tx_fm hC), va_K.moved hW.alike (hK.sub isT (tx_fm hT)), (hD.sub isC hn hC).weaken (fun _ _ _ _ => trivial), hZ.at hS hU hW (va_free hD hS hA isC hC)⟩⟩
theorem ct_preV {As : List Value} {ci b q0 : Nat} {r : vw_C} {fs : List Value} (hP : va_P D vwCl ws H) (hD : va_D A ws) (hK : va_K D vwCl tys s) (hS : va_S A s.heap H locs) (hA : ∀ q, s.heap.size ≤ q → A q) (hZ : tx_St A s) (hc : vwCl[ci]? = some r) (he : ws[q0]? = some (b, .inr (ci, fs))) (isC isT : List Nat) (hC : isC.map (fun i => ws[i]?) = wc.map some) (hn : va_nd isC = true) (hT : isT.map (fun i => tys[i]?) = tyc.map some) :
    PreV s H r.1 b (va_Pc (.ref b :: As) (ct_P D wc tyc H.size)) As :=
  ⟨ct_blind, va_recv hK hP hc he, (ct_pre hP hD hK hS hA hZ isC isT hC hn hT).2⟩
theorem ct_i {S : Type} {post : Int32 → S → Prop} {w1 : S → va_W} {ty1 : S → List (ClassId × FieldType)} (hr : va_Run p l e R s m args below meth c H locs cells slots mc ms (F0 m pc ls st0) rest (va_Qi post (fun u => ct_B D (va_A wc H.size) (w1 u) (ty1 u)) (va_A wc H.size) a) (va_A wc H.size))
    (hP : va_P D vwCl ws H) (hD : va_D A ws) (hK : va_K D vwCl tys s) (hS : va_S A s.heap H locs) (hA : ∀ q, s.heap.size ≤ q → A q) (isC isR isT : List Nat) (hC : isC.map (fun i => ws[i]?) = wc.map some) (hR : isR.map (fun i => ws[i]?) = wr.map some) (hn : va_nd isR = true) (hdis : ∀ i ∈ isR, i ∉ isC) (hT : isT.map (fun i => tys[i]?) = tyr.map some)
    (kk : ∀ (r : Int32) (u : S) (H1 : Heap) (locs1 : List Loc), post r u → va_P D vwCl (wr ++ w1 u) H1 → va_D A (wr ++ w1 u) → va_K D vwCl (tyr ++ ty1 u) s → va_S A s.heap H1 locs1 → W p l e R s m args below meth c H1 locs1 (cells + mc) (slots + ms) Q (F0 m (pc + 3) ls (.int r :: rest))) : W p l e R s m args below meth c H locs cells slots Q (F0 m pc ls st0) := by
  have hF := va_free hD hS hA isC hC
  refine va_calli hr hS (fun q _ h => hF q h) hF (fun r u t H1 locs1 ht hvm hw hB hz1 hk1 hS1 => ?_)
  obtain ⟨hP1, hK1, hD1⟩ := hB
  rw [ht] at hP1
  obtain ⟨hP2, hD2⟩ := va_join hP hD isC isR hC hR hn hdis hk1 hF hP1 hD1
  exact kk r u H1 locs1 hw hP2 hD2 ((hK.sub isT (tx_fm hT)).app (va_K.moved hvm.symm hK1)) hS1
theorem ct_v {S : Type} {post : S → Prop} {w1 : S → va_W} {ty1 : S → List (ClassId × FieldType)} (hr : va_Run p l e R s m args below meth c H locs cells slots mc ms (F0 m pc ls st0) rest (va_Qv post (fun u => ct_B D (va_A wc H.size) (w1 u) (ty1 u)) (va_A wc H.size) a) (va_A wc H.size))
    (hP : va_P D vwCl ws H) (hD : va_D A ws) (hK : va_K D vwCl tys s) (hS : va_S A s.heap H locs) (hA : ∀ q, s.heap.size ≤ q → A q) (isC isR isT : List Nat) (hC : isC.map (fun i => ws[i]?) = wc.map some) (hR : isR.map (fun i => ws[i]?) = wr.map some) (hn : va_nd isR = true) (hdis : ∀ i ∈ isR, i ∉ isC) (hT : isT.map (fun i => tys[i]?) = tyr.map some)
    (kk : ∀ (u : S) (H1 : Heap) (locs1 : List Loc), post u → va_P D vwCl (wr ++ w1 u) H1 → va_D A (wr ++ w1 u) → va_K D vwCl (tyr ++ ty1 u) s → va_S A s.heap H1 locs1 → W p l e R s m args below meth c H1 locs1 (cells + mc) (slots + ms) Q (F0 m (pc + 3) ls rest)) : W p l e R s m args below meth c H locs cells slots Q (F0 m pc ls st0) := by
  have hF := va_free hD hS hA isC hC
  refine va_callv hr hS (fun q _ h => hF q h) hF (fun u t H1 locs1 ht hvm hw hB hz1 hk1 hS1 => ?_)
  obtain ⟨hP1, hK1, hD1⟩ := hB
  rw [ht] at hP1
  obtain ⟨hP2, hD2⟩ := va_join hP hD isC isR hC hR hn hdis hk1 hF hP1 hD1
  exact kk u H1 locs1 hw hP2 hD2 ((hK.sub isT (tx_fm hT)).app (va_K.moved hvm.symm hK1)) hS1
theorem ct_q {S : Type} {post : Option Nat → S → Prop} {w1 : S → va_W} {ty1 : S → List (ClassId × FieldType)} (hr : va_Run p l e R s m args below meth c H locs cells slots mc ms (F0 m pc ls st0) rest (va_Qq post (fun u => ct_B D (va_A wc H.size) (w1 u) (ty1 u)) (va_A wc H.size) a) (va_A wc H.size))
    (hP : va_P D vwCl ws H) (hD : va_D A ws) (hK : va_K D vwCl tys s) (hS : va_S A s.heap H locs) (hA : ∀ q, s.heap.size ≤ q → A q) (isC isR isT : List Nat) (hC : isC.map (fun i => ws[i]?) = wc.map some) (hR : isR.map (fun i => ws[i]?) = wr.map some) (hn : va_nd isR = true) (hdis : ∀ i ∈ isR, i ∉ isC) (hT : isT.map (fun i => tys[i]?) = tyr.map some)
    (kk : ∀ (r : Option Nat) (u : S) (H1 : Heap) (locs1 : List Loc), post r u → va_P D vwCl (wr ++ w1 u) H1 → va_D A (wr ++ w1 u) → va_K D vwCl (tyr ++ ty1 u) s → va_S A s.heap H1 locs1 → W p l e R s m args below meth c H1 locs1 (cells + mc) (slots + ms) Q (F0 m (pc + 3) ls (va_rf r :: rest))) : W p l e R s m args below meth c H locs cells slots Q (F0 m pc ls st0) := by
  have hF := va_free hD hS hA isC hC
  refine va_callq hr hS (fun q _ h => hF q h) hF (fun r u t H1 locs1 ht hvm hw hB hz1 hk1 hS1 => ?_)
  obtain ⟨hP1, hK1, hD1⟩ := hB
  rw [ht] at hP1
  obtain ⟨hP2, hD2⟩ := va_join hP hD isC isR hC hR hn hdis hk1 hF hP1 hD1
  exact kk r u H1 locs1 hw hP2 hD2 ((hK.sub isT (tx_fm hT)).app (va_K.moved hvm.symm hK1)) hS1
/-- a call that returns an int or throws -/
theorem xt_i {S : Type} {post : Int32 → S → Prop} {bx : String → Prop} {w1 : S → va_W} {ty1 : S → List (ClassId × FieldType)} (hr : vx_Run p l e R s m args below meth c H locs cells slots mc ms (F0 m pc ls st0) rest (va_Qi post (fun u => ct_B D (va_A wc H.size) (w1 u) (ty1 u)) (va_A wc H.size) a) (tx_X bx (va_A wc H.size)) (va_A wc H.size))
    (hP : va_P D vwCl ws H) (hD : va_D A ws) (hK : va_K D vwCl tys s) (hS : va_S A s.heap H locs) (hA : ∀ q, s.heap.size ≤ q → A q) (isC isR isT : List Nat) (hC : isC.map (fun i => ws[i]?) = wc.map some) (hR : isR.map (fun i => ws[i]?) = wr.map some) (hn : va_nd isR = true) (hdis : ∀ i ∈ isR, i ∉ isC) (hT : isT.map (fun i => tys[i]?) = tyr.map some)
    (kx : ∀ (E : String) (ce : Cell) (q9 : Addr) (H1 : Heap) (locs1 : List Loc), bx E → va_S A s.heap H1 locs1 → va_P D vwCl wr H1 → va_D A wr → H1[q9]? = some ce → ce.vm = .none → s.vm.findClass E = some ce.cls → vx_W p l e R s m args below meth c H1 locs1 (cells + mc) (slots + ms) Q (F0 m pc ls rest) q9)
    (kk : ∀ (r : Int32) (u : S) (H1 : Heap) (locs1 : List Loc), post r u → va_P D vwCl (wr ++ w1 u) H1 → va_D A (wr ++ w1 u) → va_K D vwCl (tyr ++ ty1 u) s → va_S A s.heap H1 locs1 → W p l e R s m args below meth c H1 locs1 (cells + mc) (slots + ms) Q (F0 m (pc + 3) ls (.int r :: rest))) : W p l e R s m args below meth c H locs cells slots Q (F0 m pc ls st0) := by
  have hF := va_free hD hS hA isC hC
  refine vx_calli hr hS (fun q _ h => hF q h) hF (fun q _ h => hF q h) (fun E ce q9 u t H1 locs1 ht hvm _ hb hz1 hk1 hS1 hce hcv hcl => ?_) (fun r u t H1 locs1 ht hvm hw hB hz1 hk1 hS1 => ?_)
  · obtain ⟨hP2, hD2⟩ := va_join (w1 := []) hP hD isC isR hC hR hn hdis hk1 hF (H1 := H1) (fun k q h => by simp at h) ⟨fun i j p q h => by simp at h, fun k q h => by simp at h⟩
    rw [List.append_nil] at hP2 hD2
    exact kx E ce q9 H1 locs1 hb hS1 hP2 hD2 hce hcv hcl
  · obtain ⟨hP1, hK1, hD1⟩ := hB
    rw [ht] at hP1
    obtain ⟨hP2, hD2⟩ := va_join hP hD isC isR hC hR hn hdis hk1 hF hP1 hD1
    exact kk r u H1 locs1 hw hP2 hD2 ((hK.sub isT (tx_fm hT)).app (va_K.moved hvm.symm hK1)) hS1
theorem xt_v {S : Type} {post : S → Prop} {bx : String → Prop} {w1 : S → va_W} {ty1 : S → List (ClassId × FieldType)} (hr : vx_Run p l e R s m args below meth c H locs cells slots mc ms (F0 m pc ls st0) rest (va_Qv post (fun u => ct_B D (va_A wc H.size) (w1 u) (ty1 u)) (va_A wc H.size) a) (tx_X bx (va_A wc H.size)) (va_A wc H.size))
    (hP : va_P D vwCl ws H) (hD : va_D A ws) (hK : va_K D vwCl tys s) (hS : va_S A s.heap H locs) (hA : ∀ q, s.heap.size ≤ q → A q) (isC isR isT : List Nat) (hC : isC.map (fun i => ws[i]?) = wc.map some) (hR : isR.map (fun i => ws[i]?) = wr.map some) (hn : va_nd isR = true) (hdis : ∀ i ∈ isR, i ∉ isC) (hT : isT.map (fun i => tys[i]?) = tyr.map some)
    (kx : ∀ (E : String) (ce : Cell) (q9 : Addr) (H1 : Heap) (locs1 : List Loc), bx E → va_S A s.heap H1 locs1 → va_P D vwCl wr H1 → va_D A wr → H1[q9]? = some ce → ce.vm = .none → s.vm.findClass E = some ce.cls → vx_W p l e R s m args below meth c H1 locs1 (cells + mc) (slots + ms) Q (F0 m pc ls rest) q9)
    (kk : ∀ (u : S) (H1 : Heap) (locs1 : List Loc), post u → va_P D vwCl (wr ++ w1 u) H1 → va_D A (wr ++ w1 u) → va_K D vwCl (tyr ++ ty1 u) s → va_S A s.heap H1 locs1 → W p l e R s m args below meth c H1 locs1 (cells + mc) (slots + ms) Q (F0 m (pc + 3) ls rest)) : W p l e R s m args below meth c H locs cells slots Q (F0 m pc ls st0) := by
  have hF := va_free hD hS hA isC hC
  refine vx_callv hr hS (fun q _ h => hF q h) hF (fun q _ h => hF q h) (fun E ce q9 u t H1 locs1 ht hvm _ hb hz1 hk1 hS1 hce hcv hcl => ?_) (fun u t H1 locs1 ht hvm hw hB hz1 hk1 hS1 => ?_)
  · obtain ⟨hP2, hD2⟩ := va_join (w1 := []) hP hD isC isR hC hR hn hdis hk1 hF (H1 := H1) (fun k q h => by simp at h) ⟨fun i j p q h => by simp at h, fun k q h => by simp at h⟩
    rw [List.append_nil] at hP2 hD2
    exact kx E ce q9 H1 locs1 hb hS1 hP2 hD2 hce hcv hcl
  · obtain ⟨hP1, hK1, hD1⟩ := hB
    rw [ht] at hP1
    obtain ⟨hP2, hD2⟩ := va_join hP hD isC isR hC hR hn hdis hk1 hF hP1 hD1
    exact kk u H1 locs1 hw hP2 hD2 ((hK.sub isT (tx_fm hT)).app (va_K.moved hvm.symm hK1)) hS1
theorem tx_callq {S SX : Type} {post : Option Nat → S → Prop} {px : SX → Prop} {B : S → State → Prop} {BX : String → SX → State → Prop} {AX A0 A1 : Nat → Prop} {H0 : Heap} {free : Addr → Prop} (hr : vx_Run p l e R s m args below meth c H locs cells slots mc ms (F0 m pc ls st0) rest (va_Qq post B A1 a) (vx_X px BX AX) free) (hS : va_S A0 H0 H locs) (hA : ∀ q, q < H.size → A1 q → A0 q) (hf : ∀ q, free q → A0 q) (hAX : ∀ q, q < H.size → AX q → A0 q)
    (kx : ∀ (E : String) (ce : Cell) (q9 : Addr) (u : SX) (t : State) (H1 : Heap) (locs1 : List Loc), t.heap = H1 → s.vm.Alike t.vm → px u → BX E u t → H.size ≤ H1.size → (∀ q : Nat, q < H.size → ¬ AX q → H1[q]? = H[q]?) → va_S A0 H0 H1 locs1 → H1[q9]? = some ce → ce.vm = .none → s.vm.findClass E = some ce.cls → vx_W p l e R s m args below meth c H1 locs1 (cells + mc) (slots + ms) Q (F0 m pc ls rest) q9)
    (kk : ∀ (r : Option Nat) (u : S) (t : State) (H1 : Heap) (locs1 : List Loc), t.heap = H1 → s.vm.Alike t.vm → post r u → B u t → H.size ≤ H1.size → (∀ q : Nat, q < H.size → ¬ A1 q → H1[q]? = H[q]?) → va_S A0 H0 H1 locs1 → W p l e R s m args below meth c H1 locs1 (cells + mc) (slots + ms) Q (F0 m (pc + 3) ls (va_rf r :: rest))) : W p l e R s m args below meth c H locs cells slots Q (F0 m pc ls st0) := by
  intro T hT X
  rcases hr T hT X with ⟨v, st₀, t, T', L, h0, X', hL, e1, e2, ⟨⟨r, u, hv, hp, hb⟩, hF⟩, st⟩ | ⟨q, st₀, t, T', L, E, ce, h0, X', hL, e1, e2, ⟨u, hp, hb, hF⟩, hce, hcv, hcl, st⟩
  · cases hv
    obtain ⟨k1, k2, k3⟩ := vx_keep h0 e1 hS hA hf hL hF
    obtain ⟨t2, a1, b1⟩ := kk r u t T'.heap (locs ++ L) e1.symm (by rw [← e2]; exact X'.warmed.alike) hp hb k1 k2 k3 T' rfl X'
    exact ⟨t2, st t2 a1, b1⟩
  · obtain ⟨k1, k2, k3⟩ := vx_keep h0 e1 hS hAX hf hL hF
    obtain ⟨t2, a1, b1⟩ := kx E ce q u t T'.heap (locs ++ L) e1.symm (by rw [← e2]; exact X'.warmed.alike) hp hb k1 k2 k3 (by rw [e1]; exact hce) hcv hcl T' rfl X'
    exact ⟨t2, st.trans a1, b1⟩
theorem xt_q {S : Type} {post : Option Nat → S → Prop} {bx : String → Prop} {w1 : S → va_W} {ty1 : S → List (ClassId × FieldType)} (hr : vx_Run p l e R s m args below meth c H locs cells slots mc ms (F0 m pc ls st0) rest (va_Qq post (fun u => ct_B D (va_A wc H.size) (w1 u) (ty1 u)) (va_A wc H.size) a) (tx_X bx (va_A wc H.size)) (va_A wc H.size))
    (hP : va_P D vwCl ws H) (hD : va_D A ws) (hK : va_K D vwCl tys s) (hS : va_S A s.heap H locs) (hA : ∀ q, s.heap.size ≤ q → A q) (isC isR isT : List Nat) (hC : isC.map (fun i => ws[i]?) = wc.map some) (hR : isR.map (fun i => ws[i]?) = wr.map some) (hn : va_nd isR = true) (hdis : ∀ i ∈ isR, i ∉ isC) (hT : isT.map (fun i => tys[i]?) = tyr.map some)
    (kx : ∀ (E : String) (ce : Cell) (q9 : Addr) (H1 : Heap) (locs1 : List Loc), bx E → va_S A s.heap H1 locs1 → va_P D vwCl wr H1 → va_D A wr → H1[q9]? = some ce → ce.vm = .none → s.vm.findClass E = some ce.cls → vx_W p l e R s m args below meth c H1 locs1 (cells + mc) (slots + ms) Q (F0 m pc ls rest) q9)
    (kk : ∀ (r : Option Nat) (u : S) (H1 : Heap) (locs1 : List Loc), post r u → va_P D vwCl (wr ++ w1 u) H1 → va_D A (wr ++ w1 u) → va_K D vwCl (tyr ++ ty1 u) s → va_S A s.heap H1 locs1 → W p l e R s m args below meth c H1 locs1 (cells + mc) (slots + ms) Q (F0 m (pc + 3) ls (va_rf r :: rest))) : W p l e R s m args below meth c H locs cells slots Q (F0 m pc ls st0) := by
  have hF := va_free hD hS hA isC hC
  refine tx_callq hr hS (fun q _ h => hF q h) hF (fun q _ h => hF q h) (fun E ce q9 u t H1 locs1 ht hvm _ hb hz1 hk1 hS1 hce hcv hcl => ?_) (fun r u t H1 locs1 ht hvm hw hB hz1 hk1 hS1 => ?_)
  · obtain ⟨hP2, hD2⟩ := va_join (w1 := []) hP hD isC isR hC hR hn hdis hk1 hF (H1 := H1) (fun k q h => by simp at h) ⟨fun i j p q h => by simp at h, fun k q h => by simp at h⟩
    rw [List.append_nil] at hP2 hD2
    exact kx E ce q9 H1 locs1 hb hS1 hP2 hD2 hce hcv hcl
  · obtain ⟨hP1, hK1, hD1⟩ := hB
    rw [ht] at hP1
    obtain ⟨hP2, hD2⟩ := va_join hP hD isC isR hC hR hn hdis hk1 hF hP1 hD1
    exact kk r u H1 locs1 hw hP2 hD2 ((hK.sub isT (tx_fm hT)).app (va_K.moved hvm.symm hK1)) hS1
/-- a throw leaves the method: what its end owes -/
theorem tx_x {bx : String → Prop} {E : String} {t : State} (hb : bx E) (hS : va_S A s.heap H locs) (h1 : H.size ≤ t.heap.size) (h2 : ∀ q : Nat, q < H.size → t.heap[q]? = H[q]?) : tx_X bx A E s t :=
  ⟨(), trivial, hb, Nat.le_trans hS.1 h1, fun q hq hA => (h2 q (Nat.lt_of_lt_of_le hq hS.1)).trans (hS.2.1 q hq hA)⟩
theorem tx_xo {bx : String → Prop} {E : String} {t : State} (hb : bx E) (hS : va_S A s.heap H locs) (ht : t.heap = H) : tx_X bx A E s t := ⟨(), trivial, hb, hS.F ht⟩
end CTA
theorem tx_at {args : Array Value} {s : State} {own E : String} {ic : Nat} {ws : List Cond} (hts : ∀ w ∈ ws, w.before args s = true) (hin : ∀ w ∈ (vx_atS own ic E eSup).filter goodWord, w ∈ ws) (hne : ∀ w ∈ (vx_atS own ic E eSup).filter (fun w => !goodWord w), w ∈ [Cond.castable E E, Cond.declares (Bundle.initS "java/lang/RuntimeException"), Cond.declares (Bundle.initS "java/lang/Exception"), Cond.declares (Bundle.initS Bundle.tN)]) (hc : va_Nw (.castable E E) s) (hd : tx_Dec s) : ∀ w ∈ vx_atS own ic E eSup, w.before args s = true :=
  vx_hat (fun w hw => hts w (hin w hw)) hne (vx_c (va_Nw.use rfl hc) (vx_c (va_Nw.use rfl hd.1) (vx_c (va_Nw.use rfl hd.2.1) (vx_c (va_Nw.use rfl hd.2.2) vx_n))))
theorem tn_atw {args : Array Value} {s : State} {own E : String} {ic : Nat} {ws : List Cond} (hts : ∀ w ∈ ws, w.before args s = true) (hin : ∀ w ∈ (tn_at own ic E).filter goodWord, w ∈ ws) (hne : ∀ w ∈ (tn_at own ic E).filter (fun w => !goodWord w), w ∈ [Cond.castable E E, Cond.declares (Bundle.initS "java/lang/RuntimeException"), Cond.declares (Bundle.initS "java/lang/Exception"), Cond.declares (Bundle.initS Bundle.tN)]) (hc : va_Nw (.castable E E) s) (hd : tx_Dec s) : ∀ w ∈ tn_at own ic E, w.before args s = true :=
  vx_hat (fun w hw => hts w (hin w hw)) hne (vx_c (va_Nw.use rfl hc) (vx_c (va_Nw.use rfl hd.1) (vx_c (va_Nw.use rfl hd.2.1) (vx_c (va_Nw.use rfl hd.2.2) vx_n))))
theorem i_nlt {a b : Int32} (h : ¬ a < b) : b ≤ a := by
  rw [Int32.lt_iff_toInt_lt] at h
  rw [Int32.le_iff_toInt_le]
  omega
theorem i_nle {a b : Int32} (h : b < a) : ¬ a ≤ b := by
  rw [Int32.lt_iff_toInt_lt] at h
  rw [Int32.le_iff_toInt_le]
  omega
theorem i_in {k M : Int32} {n : Nat} (hM : M.toInt + 1 = (n : Int)) (h1 : ¬ k < 0) (h2 : k ≤ M) : vp_in k n := by
  rw [vp_in_iff]
  rw [Int32.lt_iff_toInt_lt] at h1
  rw [Int32.le_iff_toInt_le] at h2
  have h0 : (0 : Int32).toInt = 0 := by decide
  rw [h0] at h1
  omega
