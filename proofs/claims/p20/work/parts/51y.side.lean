/-- the two heaps and the long, side by side, and the room that is left -/
def LW (D : va_G) (cA : Nat → ClassId) (A : Nat → Prop) (s : State) (H : Heap) (locs : List Loc) (cells slots ao : Nat) (f : Nat → Int64) (x y : HS) : Prop :=
  va_P D vwCl (hW cA ao (f, x)) H ∧ va_D A (hW cA ao (f, x)) ∧ va_P D vwCl (wd cA y) H ∧ va_D A (wd cA y) ∧ Dis (hW cA ao (f, x)) (wd cA y) ∧ va_S A s.heap H locs ∧ cells + x.c + y.c ≤ room_1.cells ∧ slots + x.z + y.z ≤ room_1.slots
section LWS
variable {p : Program} {l : Launch} {e : Env} {s : State} {m : MethodId} {args : Array Value} {below : List Frame} {meth : Method} {c : Code} {H : Heap} {locs : List Loc} {cells slots : Nat} {Q : State → Prop} {pc : Nat} {ls : Array Slot} {rest st0 : List Value} {a : Array Value} {A : Nat → Prop} {D : va_G} {cA : Nat → ClassId} {ao : Nat} {f : Nat → Int64} {x y : HS}
theorem l_hlp {QH : Int32 → (Nat → Int64) → HS → Prop} (h : LW D cA A s H locs cells slots ao f x y) (hr : vy_Run p l e room_1 s m args below meth c H locs cells slots (F0 m pc ls st0) rest (fun mc ms => hQ D cA ao (va_A (hW cA ao (f, x)) H.size) x.c x.z QH mc ms a) (fun _ _ _ _ _ => False) (va_A (hW cA ao (f, x)) H.size)) (hA : ∀ q, s.heap.size ≤ q → A q)
    (kk : ∀ (r : Int32) (f1 : Nat → Int64) (u : HS) (H1 : Heap) (locs1 : List Loc) (cells1 slots1 : Nat), QH r f1 u → LW D cA A s H1 locs1 cells1 slots1 ao f1 u y → W p l e room_1 s m args below meth c H1 locs1 cells1 slots1 Q (F0 m (pc + 3) ls (.int r :: rest))) : W p l e room_1 s m args below meth c H locs cells slots Q (F0 m pc ls st0) := by
  obtain ⟨h1, h2, h3, h4, h5, h6, h7, h8⟩ := h
  refine l_run (S := (Nat → Int64) × HS) (P := fun mc ms r u => QH r u.1 u.2 ∧ mc + u.2.c = x.c ∧ ms + u.2.z = x.z) (w0 := hW cA ao (f, x)) (wo := wd cA y) (w1 := hW cA ao) (tys := tyA cA) (fun _ _ _ _ _ h => h) hr h2 h3 h5.symm h6 hA (fun mc ms r u H1 locs1 hq q1 q2 q3 q4 q5 => ?_)
  obtain ⟨k1, k2, k3⟩ := hq
  exact kk r u.1 u.2 H1 locs1 _ _ k1 ⟨q1, q2, q3, h4, q4.symm, q5, by omega, by omega⟩
theorem l_ref {Q1 : Int32 → HS → Prop} (h : LW D cA A s H locs cells slots ao f x y) (hr : vy_Run p l e room_1 s m args below meth c H locs cells slots (F0 m pc ls st0) rest (fun mc ms => yQi D cA (va_A (wd cA y) H.size) y.c y.z Q1 mc ms a) (yX D cA (va_A (wd cA y) H.size) y.c y.z (fun _ _ => False)) (va_A (wd cA y) H.size)) (hA : ∀ q, s.heap.size ≤ q → A q)
    (kk : ∀ (r : Int32) (u : HS) (H1 : Heap) (locs1 : List Loc) (cells1 slots1 : Nat), Q1 r u → LW D cA A s H1 locs1 cells1 slots1 ao f x u → W p l e room_1 s m args below meth c H1 locs1 cells1 slots1 Q (F0 m (pc + 3) ls (.int r :: rest))) : W p l e room_1 s m args below meth c H locs cells slots Q (F0 m pc ls st0) := by
  obtain ⟨h1, h2, h3, h4, h5, h6, h7, h8⟩ := h
  refine l_run (S := HS) (P := fun mc ms r u => Q1 r u ∧ mc + u.c = y.c ∧ ms + u.z = y.z) (w0 := wd cA y) (wo := hW cA ao (f, x)) (w1 := wd cA) (tys := tyA cA) (fun mc ms E st t h => by obtain ⟨u, -, ⟨⟨h, -⟩, -⟩, -⟩ := h; exact h) hr h4 h1 h5 h6 hA (fun mc ms r u H1 locs1 hq q1 q2 q3 q4 q5 => ?_)
  obtain ⟨k1, k2, k3⟩ := hq
  exact kk r u H1 locs1 _ _ k1 ⟨q3, h2, q1, q2, q4, q5, by omega, by omega⟩
theorem sc_in {i j : Int32} {L k : Nat} (hi : 0 ≤ i.toInt ∧ i.toInt + 6 ≤ L) (hL : L ≤ 3072) (hj : j.toInt = k) (hk : k < 6) : vp_in (i + j) L := by
  have e : (i + j).toInt = i.toInt + k := i_add rfl hj (by omega)
  exact k_vpin ⟨by omega, by omega⟩
end LWS
