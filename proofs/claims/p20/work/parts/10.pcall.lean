/-! CALLS THAT TAKE THE WHOLE WORLD, and throws that leave one -/
/-- it throws a thing of the class E and leaves the world wx u, of which bx is so -/
def px_X {S : Type} (D : va_G) (bx : String → S → Prop) (wx : S → va_W) (A0 : Nat → Prop) : String → State → State → Prop := vx_X (S := S) (fun _ => True) (fun E u t => bx E u ∧ va_P D vwCl (wx u) t.heap ∧ va_D A0 (wx u)) A0
section PTA
variable {p : Program} {l : Launch} {e : Env} {R : Room} {s : State} {m : MethodId} {args : Array Value} {below : List Frame} {meth : Method} {c : Code} {H : Heap} {locs : List Loc} {cells slots : Nat} {Q : State → Prop}
variable {pc : Nat} {ls : Array Slot} {rest st0 : List Value} {a : Array Value} {A : Nat → Prop} {mc ms : Nat} {D : va_G} {ws : va_W} {tys : List (ClassId × FieldType)}
theorem pt_free (hD : va_D A ws) (hS : va_S A s.heap H locs) (hA : ∀ q, s.heap.size ≤ q → A q) : ∀ q, va_A ws H.size q → A q := by
  intro q h
  rcases h with ⟨k, e, h⟩ | h
  · exact hD.2 k (q, e) h
  · exact hA q (Nat.le_trans hS.1 h)
theorem pt_pre {As : List Value} (hP : va_P D vwCl ws H) (hD : va_D A ws) (hK : va_K D vwCl tys s) (hS : va_S A s.heap H locs) (hA : ∀ q, s.heap.size ≤ q → A q) (hZ : tx_St A s) : PreS s H (va_Pc As (ct_P D ws tys H.size)) As :=
  ⟨ct_blind, fun U hU hW => ⟨rfl, by rw [hU], by rw [hU]; exact hP, va_K.moved hW.alike hK, hD.weaken (fun _ _ _ _ => trivial), hZ.at hS hU hW (pt_free hD hS hA)⟩⟩
theorem pt_preV {As : List Value} {ci b q0 : Nat} {r : vw_C} {fs : List Value} (hP : va_P D vwCl ws H) (hD : va_D A ws) (hK : va_K D vwCl tys s) (hS : va_S A s.heap H locs) (hA : ∀ q, s.heap.size ≤ q → A q) (hZ : tx_St A s) (hc : vwCl[ci]? = some r) (he : ws[q0]? = some (b, .inr (ci, fs))) : PreV s H r.1 b (va_Pc (.ref b :: As) (ct_P D ws tys H.size)) As :=
  ⟨ct_blind, va_recv hK hP hc he, (pt_pre hP hD hK hS hA hZ).2⟩
theorem pt_i {S : Type} {post : Int32 → S → Prop} {w1 : S → va_W} (hr : va_Run p l e R s m args below meth c H locs cells slots mc ms (F0 m pc ls st0) rest (va_Qi post (fun u => ct_B D (va_A ws H.size) (w1 u) tys) (va_A ws H.size) a) (va_A ws H.size))
    (hD : va_D A ws) (hS : va_S A s.heap H locs) (hA : ∀ q, s.heap.size ≤ q → A q)
    (kk : ∀ (r : Int32) (u : S) (H1 : Heap) (locs1 : List Loc), post r u → va_P D vwCl (w1 u) H1 → va_D A (w1 u) → va_S A s.heap H1 locs1 → W p l e R s m args below meth c H1 locs1 (cells + mc) (slots + ms) Q (F0 m (pc + 3) ls (.int r :: rest))) : W p l e R s m args below meth c H locs cells slots Q (F0 m pc ls st0) := by
  have hF := pt_free hD hS hA
  refine va_calli hr hS (fun q _ h => hF q h) hF (fun r u t H1 locs1 ht hvm hw hB hz1 hk1 hS1 => ?_)
  obtain ⟨hP1, -, hD1⟩ := hB
  rw [ht] at hP1
  exact kk r u H1 locs1 hw hP1 (hD1.weaken (fun _ _ _ h => hF _ h)) hS1
theorem pt_v {S : Type} {post : S → Prop} {w1 : S → va_W} (hr : va_Run p l e R s m args below meth c H locs cells slots mc ms (F0 m pc ls st0) rest (va_Qv post (fun u => ct_B D (va_A ws H.size) (w1 u) tys) (va_A ws H.size) a) (va_A ws H.size))
    (hD : va_D A ws) (hS : va_S A s.heap H locs) (hA : ∀ q, s.heap.size ≤ q → A q)
    (kk : ∀ (u : S) (H1 : Heap) (locs1 : List Loc), post u → va_P D vwCl (w1 u) H1 → va_D A (w1 u) → va_S A s.heap H1 locs1 → W p l e R s m args below meth c H1 locs1 (cells + mc) (slots + ms) Q (F0 m (pc + 3) ls rest)) : W p l e R s m args below meth c H locs cells slots Q (F0 m pc ls st0) := by
  have hF := pt_free hD hS hA
  refine va_callv hr hS (fun q _ h => hF q h) hF (fun u t H1 locs1 ht hvm hw hB hz1 hk1 hS1 => ?_)
  obtain ⟨hP1, -, hD1⟩ := hB
  rw [ht] at hP1
  exact kk u H1 locs1 hw hP1 (hD1.weaken (fun _ _ _ h => hF _ h)) hS1
theorem pt_q {S : Type} {post : Option Nat → S → Prop} {w1 : S → va_W} (hr : va_Run p l e R s m args below meth c H locs cells slots mc ms (F0 m pc ls st0) rest (va_Qq post (fun u => ct_B D (va_A ws H.size) (w1 u) tys) (va_A ws H.size) a) (va_A ws H.size))
    (hD : va_D A ws) (hS : va_S A s.heap H locs) (hA : ∀ q, s.heap.size ≤ q → A q)
    (kk : ∀ (r : Option Nat) (u : S) (H1 : Heap) (locs1 : List Loc), post r u → va_P D vwCl (w1 u) H1 → va_D A (w1 u) → va_S A s.heap H1 locs1 → W p l e R s m args below meth c H1 locs1 (cells + mc) (slots + ms) Q (F0 m (pc + 3) ls (va_rf r :: rest))) : W p l e R s m args below meth c H locs cells slots Q (F0 m pc ls st0) := by
  have hF := pt_free hD hS hA
  refine va_callq hr hS (fun q _ h => hF q h) hF (fun r u t H1 locs1 ht hvm hw hB hz1 hk1 hS1 => ?_)
  obtain ⟨hP1, -, hD1⟩ := hB
  rw [ht] at hP1
  exact kk r u H1 locs1 hw hP1 (hD1.weaken (fun _ _ _ h => hF _ h)) hS1
/-- a call that returns an int or throws; either way it leaves a world -/
theorem px_i {S SX : Type} {post : Int32 → S → Prop} {bx : String → SX → Prop} {w1 : S → va_W} {wx : SX → va_W} (hr : vx_Run p l e R s m args below meth c H locs cells slots mc ms (F0 m pc ls st0) rest (va_Qi post (fun u => ct_B D (va_A ws H.size) (w1 u) tys) (va_A ws H.size) a) (px_X D bx wx (va_A ws H.size)) (va_A ws H.size))
    (hD : va_D A ws) (hS : va_S A s.heap H locs) (hA : ∀ q, s.heap.size ≤ q → A q)
    (kx : ∀ (E : String) (u : SX) (ce : Cell) (q9 : Addr) (H1 : Heap) (locs1 : List Loc), bx E u → va_S A s.heap H1 locs1 → va_P D vwCl (wx u) H1 → va_D A (wx u) → H1[q9]? = some ce → ce.vm = .none → s.vm.findClass E = some ce.cls → vx_W p l e R s m args below meth c H1 locs1 (cells + mc) (slots + ms) Q (F0 m pc ls rest) q9)
    (kk : ∀ (r : Int32) (u : S) (H1 : Heap) (locs1 : List Loc), post r u → va_P D vwCl (w1 u) H1 → va_D A (w1 u) → va_S A s.heap H1 locs1 → W p l e R s m args below meth c H1 locs1 (cells + mc) (slots + ms) Q (F0 m (pc + 3) ls (.int r :: rest))) : W p l e R s m args below meth c H locs cells slots Q (F0 m pc ls st0) := by
  have hF := pt_free hD hS hA
  refine vx_calli hr hS (fun q _ h => hF q h) hF (fun q _ h => hF q h) (fun E ce q9 u t H1 locs1 ht hvm _ hb hz1 hk1 hS1 hce hcv hcl => ?_) (fun r u t H1 locs1 ht hvm hw hB hz1 hk1 hS1 => ?_)
  · obtain ⟨h1, h2, h3⟩ := hb
    rw [ht] at h2
    exact kx E u ce q9 H1 locs1 h1 hS1 h2 (h3.weaken (fun _ _ _ h => hF _ h)) hce hcv hcl
  · obtain ⟨hP1, -, hD1⟩ := hB
    rw [ht] at hP1
    exact kk r u H1 locs1 hw hP1 (hD1.weaken (fun _ _ _ h => hF _ h)) hS1
theorem px_v {S SX : Type} {post : S → Prop} {bx : String → SX → Prop} {w1 : S → va_W} {wx : SX → va_W} (hr : vx_Run p l e R s m args below meth c H locs cells slots mc ms (F0 m pc ls st0) rest (va_Qv post (fun u => ct_B D (va_A ws H.size) (w1 u) tys) (va_A ws H.size) a) (px_X D bx wx (va_A ws H.size)) (va_A ws H.size))
    (hD : va_D A ws) (hS : va_S A s.heap H locs) (hA : ∀ q, s.heap.size ≤ q → A q)
    (kx : ∀ (E : String) (u : SX) (ce : Cell) (q9 : Addr) (H1 : Heap) (locs1 : List Loc), bx E u → va_S A s.heap H1 locs1 → va_P D vwCl (wx u) H1 → va_D A (wx u) → H1[q9]? = some ce → ce.vm = .none → s.vm.findClass E = some ce.cls → vx_W p l e R s m args below meth c H1 locs1 (cells + mc) (slots + ms) Q (F0 m pc ls rest) q9)
    (kk : ∀ (u : S) (H1 : Heap) (locs1 : List Loc), post u → va_P D vwCl (w1 u) H1 → va_D A (w1 u) → va_S A s.heap H1 locs1 → W p l e R s m args below meth c H1 locs1 (cells + mc) (slots + ms) Q (F0 m (pc + 3) ls rest)) : W p l e R s m args below meth c H locs cells slots Q (F0 m pc ls st0) := by
  have hF := pt_free hD hS hA
  refine vx_callv hr hS (fun q _ h => hF q h) hF (fun q _ h => hF q h) (fun E ce q9 u t H1 locs1 ht hvm _ hb hz1 hk1 hS1 hce hcv hcl => ?_) (fun u t H1 locs1 ht hvm hw hB hz1 hk1 hS1 => ?_)
  · obtain ⟨h1, h2, h3⟩ := hb
    rw [ht] at h2
    exact kx E u ce q9 H1 locs1 h1 hS1 h2 (h3.weaken (fun _ _ _ h => hF _ h)) hce hcv hcl
  · obtain ⟨hP1, -, hD1⟩ := hB
    rw [ht] at hP1
    exact kk u H1 locs1 hw hP1 (hD1.weaken (fun _ _ _ h => hF _ h)) hS1
theorem px_q {S SX : Type} {post : Option Nat → S → Prop} {bx : String → SX → Prop} {w1 : S → va_W} {wx : SX → va_W} (hr : vx_Run p l e R s m args below meth c H locs cells slots mc ms (F0 m pc ls st0) rest (va_Qq post (fun u => ct_B D (va_A ws H.size) (w1 u) tys) (va_A ws H.size) a) (px_X D bx wx (va_A ws H.size)) (va_A ws H.size))
    (hD : va_D A ws) (hS : va_S A s.heap H locs) (hA : ∀ q, s.heap.size ≤ q → A q)
    (kx : ∀ (E : String) (u : SX) (ce : Cell) (q9 : Addr) (H1 : Heap) (locs1 : List Loc), bx E u → va_S A s.heap H1 locs1 → va_P D vwCl (wx u) H1 → va_D A (wx u) → H1[q9]? = some ce → ce.vm = .none → s.vm.findClass E = some ce.cls → vx_W p l e R s m args below meth c H1 locs1 (cells + mc) (slots + ms) Q (F0 m pc ls rest) q9)
    (kk : ∀ (r : Option Nat) (u : S) (H1 : Heap) (locs1 : List Loc), post r u → va_P D vwCl (w1 u) H1 → va_D A (w1 u) → va_S A s.heap H1 locs1 → W p l e R s m args below meth c H1 locs1 (cells + mc) (slots + ms) Q (F0 m (pc + 3) ls (va_rf r :: rest))) : W p l e R s m args below meth c H locs cells slots Q (F0 m pc ls st0) := by
  have hF := pt_free hD hS hA
  refine tx_callq hr hS (fun q _ h => hF q h) hF (fun q _ h => hF q h) (fun E ce q9 u t H1 locs1 ht hvm _ hb hz1 hk1 hS1 hce hcv hcl => ?_) (fun r u t H1 locs1 ht hvm hw hB hz1 hk1 hS1 => ?_)
  · obtain ⟨h1, h2, h3⟩ := hb
    rw [ht] at h2
    exact kx E u ce q9 H1 locs1 h1 hS1 h2 (h3.weaken (fun _ _ _ h => hF _ h)) hce hcv hcl
  · obtain ⟨hP1, -, hD1⟩ := hB
    rw [ht] at hP1
    exact kk r u H1 locs1 hw hP1 (hD1.weaken (fun _ _ _ h => hF _ h)) hS1
/-- a throw begins here: what its end owes -/
theorem px_x {S : Type} {bx : String → S → Prop} {wx : S → va_W} {E : String} {t : State} (u : S) (hb : bx E u) (hP : va_P D vwCl (wx u) H) (hD : va_D A (wx u)) (hS : va_S A s.heap H locs) (h1 : H.size ≤ t.heap.size) (h2 : ∀ q : Nat, q < H.size → t.heap[q]? = H[q]?) : px_X D bx wx A E s t :=
  ⟨u, trivial, ⟨hb, hP.kept (fun k q hk => h2 q.1 (hP k q hk).lt), hD⟩, Nat.le_trans hS.1 h1, fun q hq hA => (h2 q (Nat.lt_of_lt_of_le hq hS.1)).trans (hS.2.1 q hq hA)⟩
/-- a throw goes on to the caller -/
theorem px_xo {S : Type} {bx : String → S → Prop} {wx : S → va_W} {E : String} {t : State} (u : S) (hb : bx E u) (hP : va_P D vwCl (wx u) H) (hD : va_D A (wx u)) (hS : va_S A s.heap H locs) (ht : t.heap = H) : px_X D bx wx A E s t := ⟨u, trivial, ⟨hb, by rw [ht]; exact hP, hD⟩, hS.F ht⟩
end PTA
