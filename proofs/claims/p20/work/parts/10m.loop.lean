theorem i_l10 {x : Int32} (h : x < 10) : x ≤ 9 := by
  rw [Int32.lt_iff_toInt_lt, show (10 : Int32).toInt = 10 by decide] at h
  rw [Int32.le_iff_toInt_le, show (9 : Int32).toInt = 9 by decide]
  omega
theorem i_n10 {x : Int32} (h : ¬ x < 10) : ¬ x ≤ 9 := by
  rw [Int32.lt_iff_toInt_lt, show (10 : Int32).toInt = 10 by decide] at h
  rw [Int32.le_iff_toInt_le, show (9 : Int32).toInt = 9 by decide]
  omega
theorem i_le10 {x : Int32} (h1 : ¬ x < 0) (h : x < 10) : vp_in x 10 := i_in (M := 9) (by decide) h1 (i_l10 h)
/-- a counting loop that writes nothing to the heap -/
theorem tx_loop {p : Program} {l : Launch} {e : Env} {R : Room} {s : State} {m : MethodId} {args : Array Value} {below : List Frame} {meth : Method} {c : Code} {H : Heap} {locs : List Loc} {cells slots : Nat} {Q : State → Prop} {pc nL N : Nat} {ls : Array Slot} {L : Nat → List (Nat × Value)} (h : lv_has ls nL (L 0))
    (hs : ∀ i, i < N → ∀ ls : Array Slot, lv_has ls nL (L i) → (∀ ls' : Array Slot, lv_has ls' nL (L (i + 1)) → W p l e R s m args below meth c H locs cells slots Q (F0 m pc ls' [])) → W p l e R s m args below meth c H locs cells slots Q (F0 m pc ls []))
    (hx : ∀ ls : Array Slot, lv_has ls nL (L N) → W p l e R s m args below meth c H locs cells slots Q (F0 m pc ls [])) : W p l e R s m args below meth c H locs cells slots Q (F0 m pc ls []) := by
  have key : ∀ (n i : Nat), i + n = N → ∀ ls : Array Slot, lv_has ls nL (L i) → W p l e R s m args below meth c H locs cells slots Q (F0 m pc ls []) := by
    intro n
    induction n with
    | zero =>
      intro i hi ls hl
      obtain rfl : i = N := by omega
      exact hx ls hl
    | succ n ih =>
      intro i hi ls hl
      exact hs i (by omega) ls hl (fun ls' hl' => ih (i + 1) (by omega) ls' hl')
  exact key N 0 (by omega) ls h
/-- a counting loop whose body makes calls: the world stays, the heap behind it may move -/
theorem hg_loop {p : Program} {l : Launch} {e : Env} {R : Room} {s : State} {m : MethodId} {args : Array Value} {below : List Frame} {meth : Method} {c : Code} {H : Heap} {locs : List Loc} {cells slots : Nat} {Q : State → Prop} {pc nL : Nat} {ls : Array Slot} {D : va_G} {cl : List vw_C} {A : Nat → Prop} {w : va_W} {H0 : Heap} (N : Nat) (L : Nat → List (Nat × Value)) (hP : va_P D cl w H) (hD : va_D A w) (hS : va_S A H0 H locs) (hl : lv_has ls nL (L 0))
    (body : ∀ i : Nat, i < N → ∀ (H : Heap) (locs : List Loc) (ls : Array Slot), va_P D cl w H → va_D A w → va_S A H0 H locs → lv_has ls nL (L i) → (∀ (H : Heap) (locs : List Loc) (ls : Array Slot), va_P D cl w H → va_D A w → va_S A H0 H locs → lv_has ls nL (L (i + 1)) → W p l e R s m args below meth c H locs cells slots Q (F0 m pc ls [])) → W p l e R s m args below meth c H locs cells slots Q (F0 m pc ls []))
    (done : ∀ (H : Heap) (locs : List Loc) (ls : Array Slot), va_P D cl w H → va_D A w → va_S A H0 H locs → lv_has ls nL (L N) → W p l e R s m args below meth c H locs cells slots Q (F0 m pc ls [])) : W p l e R s m args below meth c H locs cells slots Q (F0 m pc ls []) := by
  have h : ∀ (d i : Nat), i + d = N → ∀ (H : Heap) (locs : List Loc) (ls : Array Slot), va_P D cl w H → va_D A w → va_S A H0 H locs → lv_has ls nL (L i) → W p l e R s m args below meth c H locs cells slots Q (F0 m pc ls []) := by
    intro d
    induction d with
    | zero => intro i hi H locs ls h1 h2 h3 h4; rw [Nat.add_zero] at hi; subst hi; exact done H locs ls h1 h2 h3 h4
    | succ d ih => intro i hi H locs ls h1 h2 h3 h4; exact body i (by omega) H locs ls h1 h2 h3 h4 (fun H locs ls a1 a2 a3 a4 => ih (i + 1) (by omega) H locs ls a1 a2 a3 a4)
  exact h N 0 (Nat.zero_add N) H locs ls hP hD hS hl
