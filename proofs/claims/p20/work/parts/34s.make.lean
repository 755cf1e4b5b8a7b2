set_option linter.unusedVariables false
set_option linter.unusedSimpArgs false
/-! the reference's making -/
def CI (o : Nat) (done : List Nat) (a : Nat → Nat) (f : Nat → Int32) (c z : Nat) (x : HS) : Prop := o ∈ x.LP ∧ x.k o = 12 ∧ x.c = c ∧ x.z = z ∧ (∀ j, j ∈ done → x.F o j = some (a j) ∧ a j ∈ x.LP ∧ x.k (a j) = mKind j ∧ x.n (a j) = mLen j ∧ ∀ i, x.J (a j) i = 0) ∧ (∀ i j, i ∈ done → j ∈ done → a i = a j → i = j) ∧ x.I o = f
theorem ci_step {o c z : Nat} {done : List Nat} {a : Nat → Nat} {f : Nat → Int32} {x : HS} {kd j n : Nat} {len : Int32} {Z : HS → Prop} (h : CI o done a f c z x) (hj : j ∉ done) (hl : len.toInt = n) (hk : mKind j = kd) (hm : mLen j = n) (hn : n ≤ 100000) (hc : 1 ≤ c) (hz : n ≤ z) (h12 : kd ≠ 12) (c' z' : Nat) (ec : c - 1 = c') (ez : z - n = z') (hZ : ∀ a x', CI o (j :: done) a f c' z' x' → Z x') : wNewJ x kd len fun q x2 => wPutF x2 12 j (some o) q fun x3 => Z x3 := by
  subst ec ez
  obtain ⟨p1, p2, p3, p4, p5, p6, p7⟩ := h
  have hl2 : len.toInt.toNat = n := by omega
  refine ⟨by omega, by omega, by omega, by omega, fun q hq => ?_⟩
  have hoq : o ≠ q := fun z => hq (z ▸ p1)
  rw [hl2]
  refine ⟨o, rfl, List.mem_append_left _ p1, ?_, hZ (va_up a j q) _ ?_⟩
  · show va_up x.k q kd o = 12
    rw [va_up_ne _ _ hoq]; exact p2
  · refine ⟨List.mem_append_left _ p1, ?_, by show x.c - 1 = _; rw [p3], by show x.z - n = _; rw [p4], ?_, ?_, p7⟩
    · show va_up x.k q kd o = 12
      rw [va_up_ne _ _ hoq]; exact p2
    · intro i hi
      by_cases hij : i = j
      · subst hij
        rw [va_up_self]
        refine ⟨up2_self _ _ _ _, List.mem_append_right _ (List.mem_singleton.mpr rfl), ?_, ?_, fun i => ?_⟩
        · show va_up x.k q kd q = _
          rw [va_up_self, hk]
        · show va_up x.n q n q = _
          rw [va_up_self, hm]
        · show va_up x.J q (fun _ => 0) q i = 0
          rw [va_up_self]
      · have hi2 : i ∈ done := by
          rcases List.mem_cons.mp hi with h | h
          · exact absurd h hij
          · exact h
        obtain ⟨q1, q2, q3, q4, q5⟩ := p5 i hi2
        have haq : a i ≠ q := fun z => hq (z ▸ q2)
        rw [va_up_ne _ _ hij]
        refine ⟨?_, List.mem_append_left _ q2, ?_, ?_, fun k => ?_⟩
        · show up2 x.F o j (some q) o i = _
          rw [up2_k _ _ _ _ hij]; exact q1
        · show va_up x.k q kd (a i) = _
          rw [va_up_ne _ _ haq]; exact q3
        · show va_up x.n q n (a i) = _
          rw [va_up_ne _ _ haq]; exact q4
        · show va_up x.J q (fun _ => 0) (a i) k = 0
          rw [va_up_ne _ _ haq]; exact q5 k
    · intro i k hi hk2 he
      by_cases hij : i = j
      · by_cases hkj : k = j
        · rw [hij, hkj]
        · rw [hij, va_up_self, va_up_ne _ _ hkj] at he
          have hk3 : k ∈ done := (List.mem_cons.mp hk2).resolve_left hkj
          exact absurd ((p5 k hk3).2.1) (he ▸ hq)
      · have hi3 : i ∈ done := (List.mem_cons.mp hi).resolve_left hij
        by_cases hkj : k = j
        · rw [hkj, va_up_self, va_up_ne _ _ hij] at he
          exact absurd ((p5 i hi3).2.1) (he ▸ hq)
        · rw [va_up_ne _ _ hij, va_up_ne _ _ hkj] at he
          exact p6 i k hi3 ((List.mem_cons.mp hk2).resolve_left hkj) he
theorem ci_int {o c z : Nat} {done : List Nat} {a : Nat → Nat} {f : Nat → Int32} {x : HS} {j : Nat} {v : Int32} {Z : HS → Prop} (h : CI o done a f c z x) (hZ : ∀ x', CI o done a (va_up f j v) c z x' → Z x') : wPutI x 12 j (some o) v fun x3 => Z x3 := by
  obtain ⟨p1, p2, p3, p4, p5, p6, p7⟩ := h
  refine ⟨o, rfl, p1, p2, hZ _ ⟨p1, p2, p3, p4, p5, p6, ?_⟩⟩
  funext k
  show up2 x.I o j v o k = va_up f j v k
  unfold up2 va_up
  rw [← p7]; simp
def fi0 : Nat → Int32 := va_up (fun _ => 0) 42 (-1)
theorem ci_end {o c z : Nat} {done : List Nat} {a : Nat → Nat} {x : HS} (h : CI o done a fi0 c z x) (hd : ∀ j, j ∈ mIds → j ∈ done) : MB (x, o, a) ∧ x = mS (x, o, a) fi0 (fun _ _ => 0) ∧ x.c = c ∧ x.z = z := by
  obtain ⟨p1, p2, p3, p4, p5, p6, p7⟩ := h
  have hMB : MB (x, o, a) := ⟨p1, p2, fun j hj => by obtain ⟨q1, q2, q3, q4, q5⟩ := p5 j (hd j hj); exact ⟨q1, q2, q3, q4⟩, fun i j hi hj => p6 i j (hd i hi) (hd j hj)⟩
  refine ⟨hMB, ?_, p3, p4⟩
  have e1 : (fun b j => if b = o then fi0 j else x.I b j) = x.I := by
    funext b j
    split
    · rename_i hb; rw [hb, p7]
    · rfl
  have e2 : mJ (x, o, a) (fun _ _ => 0) = x.J := by
    funext b i
    unfold mJ
    split
    · rename_i j hj
      have h1 := List.find?_some hj
      have h2 := List.mem_of_find?_eq_some hj
      have h3 : a j = b := by simpa using h1
      rw [← h3]; exact ((p5 j (hd j h2)).2.2.2.2 i).symm
    · rfl
  unfold mS
  show x = (x.wI (fun b j => if b = o then fi0 j else x.I b j)).wJ (mJ (x, o, a) fun _ _ => 0)
  rw [e1, e2]; rfl
theorem G_new : G 0 fi0 (fun _ _ => 0) := by
  have hU : ∀ f, ¬ mU (fun _ => 0) f := fun f h => h.2 rfl
  have h0 : (0 : Int32).toInt = 0 := by decide
  refine ⟨⟨⟨by decide, by decide⟩, ⟨by decide, by decide⟩, ⟨by decide, by decide⟩, ⟨by decide, by decide⟩, ⟨by decide, by decide⟩, by decide, by decide⟩, fun t ht => ?_, ⟨fun _ => 0, fun f hf => absurd hf (hU f), fun f g hf => absurd hf (hU f), fun t ht => ?_⟩, ?_, ⟨fun f hf => absurd hf (hU f), fun f g hf => absurd hf (hU f), fun f g hf => absurd hf (hU f), fun f g hf => absurd hf (hU f)⟩, fun h => ?_, fun c hc ho => absurd rfl ho⟩
  · exact absurd ht (by show ¬ (t : Int) < (0 : Int32).toInt; omega)
  · exact absurd ht (by show ¬ (t : Int) < (0 : Int32).toInt; omega)
  · show (0 : Int32).toInt = _
    have : cnt (fun f => (0 : Int32) != 0) 3000 = 0 := cnt_no (fun i _ => rfl)
    rw [h0]; exact congrArg Int.ofNat this.symm
  · exact absurd h (by show ¬ 0 < (0 : Int32).toInt; omega)
theorem t_init {o : Nat} {x : HS} {Q : HS → Prop} {X : String → HS → Prop} (h1 : o ∈ x.LP) (h2 : x.k o = 12) (h3 : x.I o = fun _ => 0) (hc : 38 ≤ x.c) (hz : 56386 ≤ x.z) (hQ : ∀ b : MT, MB b → b.o = o → b.B.c = x.c - 38 → b.B.z = x.z - 56386 → Q (mS b fi0 (fun _ _ => 0))) : w_X12_init (some o) x Q X := by
  simp only [w_X12_init]
  refine ⟨⟨o, rfl⟩, ?_⟩
  generalize hcc : x.c = c at hc hQ
  generalize hzz : x.z = z at hz hQ
  have h0 : CI o [] (fun _ => 0) (fun _ => 0) c z x := ⟨h1, h2, hcc, hzz, fun j hj => absurd hj List.not_mem_nil, fun i j hi => absurd hi List.not_mem_nil, h3⟩
  refine ci_step (j := 1) (n := 400) h0 (by decide) (by decide) (by decide) (by decide) (by decide) (by omega) (by omega) (by decide) (c - 1) (z - 400) (by omega) (by omega) (fun a1 x1 h1 => ?_)
  clear h0
  refine ci_step (j := 3) (n := 4) h1 (by decide) (by decide) (by decide) (by decide) (by decide) (by omega) (by omega) (by decide) (c - 2) (z - 404) (by omega) (by omega) (fun a2 x2 h2 => ?_)
  clear h1
  refine ci_step (j := 4) (n := 12) h2 (by decide) (by decide) (by decide) (by decide) (by decide) (by omega) (by omega) (by decide) (c - 3) (z - 416) (by omega) (by omega) (fun a3 x3 h3 => ?_)
  clear h2
  refine ci_step (j := 5) (n := 12) h3 (by decide) (by decide) (by decide) (by decide) (by decide) (by omega) (by omega) (by decide) (c - 4) (z - 428) (by omega) (by omega) (fun a4 x4 h4 => ?_)
  clear h3
  refine ci_step (j := 6) (n := 12) h4 (by decide) (by decide) (by decide) (by decide) (by decide) (by omega) (by omega) (by decide) (c - 5) (z - 440) (by omega) (by omega) (fun a5 x5 h5 => ?_)
  clear h4
  refine ci_step (j := 7) (n := 12) h5 (by decide) (by decide) (by decide) (by decide) (by decide) (by omega) (by omega) (by decide) (c - 6) (z - 452) (by omega) (by omega) (fun a6 x6 h6 => ?_)
  clear h5
  refine ci_step (j := 8) (n := 12) h6 (by decide) (by decide) (by decide) (by decide) (by decide) (by omega) (by omega) (by decide) (c - 7) (z - 464) (by omega) (by omega) (fun a7 x7 h7 => ?_)
  clear h6
  refine ci_step (j := 9) (n := 36) h7 (by decide) (by decide) (by decide) (by decide) (by decide) (by omega) (by omega) (by decide) (c - 8) (z - 500) (by omega) (by omega) (fun a8 x8 h8 => ?_)
  clear h7
  refine ci_step (j := 11) (n := 3000) h8 (by decide) (by decide) (by decide) (by decide) (by decide) (by omega) (by omega) (by decide) (c - 9) (z - 3500) (by omega) (by omega) (fun a9 x9 h9 => ?_)
  clear h8
  refine ci_step (j := 12) (n := 3000) h9 (by decide) (by decide) (by decide) (by decide) (by decide) (by omega) (by omega) (by decide) (c - 10) (z - 6500) (by omega) (by omega) (fun a10 x10 h10 => ?_)
  clear h9
  refine ci_step (j := 13) (n := 12000) h10 (by decide) (by decide) (by decide) (by decide) (by decide) (by omega) (by omega) (by decide) (c - 11) (z - 18500) (by omega) (by omega) (fun a11 x11 h11 => ?_)
  clear h10
  refine ci_step (j := 14) (n := 3000) h11 (by decide) (by decide) (by decide) (by decide) (by decide) (by omega) (by omega) (by decide) (c - 12) (z - 21500) (by omega) (by omega) (fun a12 x12 h12 => ?_)
  clear h11
  refine ci_step (j := 15) (n := 3000) h12 (by decide) (by decide) (by decide) (by decide) (by decide) (by omega) (by omega) (by decide) (c - 13) (z - 24500) (by omega) (by omega) (fun a13 x13 h13 => ?_)
  clear h12
  refine ci_step (j := 16) (n := 3000) h13 (by decide) (by decide) (by decide) (by decide) (by decide) (by omega) (by omega) (by decide) (c - 14) (z - 27500) (by omega) (by omega) (fun a14 x14 h14 => ?_)
  clear h13
  refine ci_step (j := 17) (n := 3000) h14 (by decide) (by decide) (by decide) (by decide) (by decide) (by omega) (by omega) (by decide) (c - 15) (z - 30500) (by omega) (by omega) (fun a15 x15 h15 => ?_)
  clear h14
  refine ci_step (j := 18) (n := 3000) h15 (by decide) (by decide) (by decide) (by decide) (by decide) (by omega) (by omega) (by decide) (c - 16) (z - 33500) (by omega) (by omega) (fun a16 x16 h16 => ?_)
  clear h15
  refine ci_step (j := 19) (n := 3000) h16 (by decide) (by decide) (by decide) (by decide) (by decide) (by omega) (by omega) (by decide) (c - 17) (z - 36500) (by omega) (by omega) (fun a17 x17 h17 => ?_)
  clear h16
  refine ci_step (j := 24) (n := 12000) h17 (by decide) (by decide) (by decide) (by decide) (by decide) (by omega) (by omega) (by decide) (c - 18) (z - 48500) (by omega) (by omega) (fun a18 x18 h18 => ?_)
  clear h17
  refine ci_step (j := 26) (n := 8) h18 (by decide) (by decide) (by decide) (by decide) (by decide) (by omega) (by omega) (by decide) (c - 19) (z - 48508) (by omega) (by omega) (fun a19 x19 h19 => ?_)
  clear h18
  refine ci_step (j := 28) (n := 10) h19 (by decide) (by decide) (by decide) (by decide) (by decide) (by omega) (by omega) (by decide) (c - 20) (z - 48518) (by omega) (by omega) (fun a20 x20 h20 => ?_)
  clear h19
  refine ci_step (j := 29) (n := 10) h20 (by decide) (by decide) (by decide) (by decide) (by decide) (by omega) (by omega) (by decide) (c - 21) (z - 48528) (by omega) (by omega) (fun a21 x21 h21 => ?_)
  clear h20
  refine ci_step (j := 30) (n := 10) h21 (by decide) (by decide) (by decide) (by decide) (by decide) (by omega) (by omega) (by decide) (c - 22) (z - 48538) (by omega) (by omega) (fun a22 x22 h22 => ?_)
  clear h21
  refine ci_step (j := 31) (n := 10) h22 (by decide) (by decide) (by decide) (by decide) (by decide) (by omega) (by omega) (by decide) (c - 23) (z - 48548) (by omega) (by omega) (fun a23 x23 h23 => ?_)
  clear h22
  refine ci_step (j := 32) (n := 10) h23 (by decide) (by decide) (by decide) (by decide) (by decide) (by omega) (by omega) (by decide) (c - 24) (z - 48558) (by omega) (by omega) (fun a24 x24 h24 => ?_)
  clear h23
  refine ci_step (j := 33) (n := 10) h24 (by decide) (by decide) (by decide) (by decide) (by decide) (by omega) (by omega) (by decide) (c - 25) (z - 48568) (by omega) (by omega) (fun a25 x25 h25 => ?_)
  clear h24
  refine ci_step (j := 34) (n := 10) h25 (by decide) (by decide) (by decide) (by decide) (by decide) (by omega) (by omega) (by decide) (c - 26) (z - 48578) (by omega) (by omega) (fun a26 x26 h26 => ?_)
  clear h25
  refine ci_step (j := 35) (n := 40) h26 (by decide) (by decide) (by decide) (by decide) (by decide) (by omega) (by omega) (by decide) (c - 27) (z - 48618) (by omega) (by omega) (fun a27 x27 h27 => ?_)
  clear h26
  refine ci_step (j := 36) (n := 6000) h27 (by decide) (by decide) (by decide) (by decide) (by decide) (by omega) (by omega) (by decide) (c - 28) (z - 54618) (by omega) (by omega) (fun a28 x28 h28 => ?_)
  clear h27
  refine ci_int h28 (fun x29 h29 => ?_)
  clear h28
  refine ci_step (j := 44) (n := 11) h29 (by decide) (by decide) (by decide) (by decide) (by decide) (by omega) (by omega) (by decide) (c - 29) (z - 54629) (by omega) (by omega) (fun a30 x30 h30 => ?_)
  clear h29
  refine ci_step (j := 45) (n := 11) h30 (by decide) (by decide) (by decide) (by decide) (by decide) (by omega) (by omega) (by decide) (c - 30) (z - 54640) (by omega) (by omega) (fun a31 x31 h31 => ?_)
  clear h30
  refine ci_step (j := 46) (n := 55) h31 (by decide) (by decide) (by decide) (by decide) (by decide) (by omega) (by omega) (by decide) (c - 31) (z - 54695) (by omega) (by omega) (fun a32 x32 h32 => ?_)
  clear h31
  refine ci_step (j := 47) (n := 55) h32 (by decide) (by decide) (by decide) (by decide) (by decide) (by omega) (by omega) (by decide) (c - 32) (z - 54750) (by omega) (by omega) (fun a33 x33 h33 => ?_)
  clear h32
  refine ci_step (j := 48) (n := 12) h33 (by decide) (by decide) (by decide) (by decide) (by decide) (by omega) (by omega) (by decide) (c - 33) (z - 54762) (by omega) (by omega) (fun a34 x34 h34 => ?_)
  clear h33
  refine ci_step (j := 50) (n := 8) h34 (by decide) (by decide) (by decide) (by decide) (by decide) (by omega) (by omega) (by decide) (c - 34) (z - 54770) (by omega) (by omega) (fun a35 x35 h35 => ?_)
  clear h34
  refine ci_step (j := 51) (n := 11) h35 (by decide) (by decide) (by decide) (by decide) (by decide) (by omega) (by omega) (by decide) (c - 35) (z - 54781) (by omega) (by omega) (fun a36 x36 h36 => ?_)
  clear h35
  refine ci_step (j := 52) (n := 5) h36 (by decide) (by decide) (by decide) (by decide) (by decide) (by omega) (by omega) (by decide) (c - 36) (z - 54786) (by omega) (by omega) (fun a37 x37 h37 => ?_)
  clear h36
  refine ci_step (j := 53) (n := 800) h37 (by decide) (by decide) (by decide) (by decide) (by decide) (by omega) (by omega) (by decide) (c - 37) (z - 55586) (by omega) (by omega) (fun a38 x38 h38 => ?_)
  clear h37
  refine ci_step (j := 54) (n := 800) h38 (by decide) (by decide) (by decide) (by decide) (by decide) (by omega) (by omega) (by decide) (c - 38) (z - 56386) (by omega) (by omega) (fun a39 x39 h39 => ?_)
  clear h38
  have hf : fi0 = va_up (fun _ => 0) 42 (-1) := rfl
  rw [← hf] at h39
  obtain ⟨e1, e2, e3, e4⟩ := ci_end h39 (by decide)
  have := hQ _ e1 rfl e3 e4
  rw [← e2] at this
  exact this
