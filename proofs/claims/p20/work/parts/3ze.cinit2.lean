set_option linter.unusedVariables false
set_option linter.unusedSimpArgs false
/-- a store's numbers are 0 -/
def Z1 (x : HS) : Prop := ∀ a, a ∈ x.LP → x.k a = 9 → x.I a 5 = 0 ∧ x.I a 6 = 0 ∧ x.I a 7 = 0
theorem Z1_clo {WI WF : List (Nat × Nat)} {WJ WG : List Nat} (h : (9, 5) ∉ WI ∧ (9, 6) ∉ WI ∧ (9, 7) ∉ WI) : CloR WI WF WJ WG Z1 := by
  have nw : ∀ (x : HS) (q ci : Nat) (I : Nat → Nat → Int32), Z1 x → q ∉ x.LP → I q = (fun _ => 0) ∨ (ci ≠ 11 ∧ ci ≠ 9) → (∀ c, c ≠ q → I c = x.I c) → ∀ a, a ∈ x.LP ++ [q] → va_up x.k q ci a = 9 → I a 5 = 0 ∧ I a 6 = 0 ∧ I a 7 = 0 := fun x q ci I hz hq h1 h2 a ha => by
    by_cases e : a = q
    · subst e
      rw [va_up_self]
      rcases h1 with h1 | h1
      · rw [h1]; exact fun _ => ⟨rfl, rfl, rfl⟩
      · exact fun z => absurd z h1.2
    · rw [va_up_ne _ _ e, h2 a e]
      exact hz a ((List.mem_append.mp ha).resolve_right (fun z => e (List.mem_singleton.mp z)))
  refine ⟨fun x a ci j v hz ha hk hj c hc z => ?_, fun x a ci j v hz _ _ _ => hz, fun x a f hz _ _ _ => hz, fun x a i v hz _ _ => hz, fun x c z hz => hz, fun x q ci N hz hq => ?_, fun x q kd N h20 hz hq => ?_, fun x q kd N h20 hz hq => ?_⟩
  · have key : ∀ i, (9, i) ∉ WI → up2 x.I a j v c i = x.I c i := fun i hi => if_neg (fun y => hi (by rw [← z, y.2, y.1]; show (x.k a, j) ∈ WI; rw [hk]; exact hj))
    obtain ⟨z1, z2, z3⟩ := hz c hc z
    exact ⟨(key 5 h.1).trans z1, (key 6 h.2.1).trans z2, (key 7 h.2.2).trans z3⟩
  · exact nw x q ci _ hz hq (Or.inl (va_up_self _ _ _)) (fun c hc => va_up_ne _ _ hc)
  · exact nw x q kd _ hz hq (Or.inr ⟨by omega, by omega⟩) (fun c hc => rfl)
  · exact nw x q kd _ hz hq (Or.inr ⟨by omega, by omega⟩) (fun c hc => rfl)
theorem allF_0 : allF AS0 = [] := by
  unfold allF
  rw [List.flatMap_eq_nil_iff]
  exact fun _ _ => rfl
theorem cx_0 {o : Nat} {x : HS} (h : CY o x) (hz : Z1 x) : CX o AS0 x := by
  obtain ⟨b, s, h, r, l, v, I, F, A, E, rfl, hb, ho, hCL, hS, f2, f6, hl, hE, hinj, hv, i0, a1, a4⟩ := h
  obtain ⟨h1, h2, h3, h4, h5, h6, h7, h8, h9⟩ := hS
  obtain ⟨z5, z6, z7⟩ := hz s h1.1 h1.2
  have z5 : I s 5 = 0 := z5
  have z6 : I s 6 = 0 := z6
  have z7 : I s 7 = 0 := z7
  have no : ∀ c a, c ∈ [0, 1, 4, 10] → ¬ Is b c a := fun c a hc ha => by
    have := hCL c a ha
    simp only [List.mem_cons, List.not_mem_nil, or_false] at hc
    omega
  have z0 : (0 : Int32).toInt = 0 := by decide
  have hlk : ∀ i, ∃ q, i < 10 → E o 3 i = some q ∧ Is b 5 q ∧ q ≠ l := fun i => by
    by_cases hi : i < 10
    · obtain ⟨q, hq⟩ := hE i hi
      exact ⟨q, fun _ => hq⟩
    · exact ⟨0, fun z => absurd z hi⟩
  obtain ⟨lk, hlk⟩ := Classical.axiomOfChoice hlk
  refine ⟨(s, h, l, lk, fun _ => 0, fun _ => 0, fun _ => 0, fun _ => 0, 0), b, I, F, A, E, rfl, rfl, hb, ⟨ho, f2, h1, h3, h2, f6, hl, hlk, fun c c' hc hc' e => ?_, fun v' i q hv' hq => ?_⟩, ⟨h4, fun t ht => absurd ht tn_0⟩, fun t n hn => absurd hn List.not_mem_nil, ⟨fun c hc => absurd hc (no 0 c (by decide)), ⟨fun c hc => absurd hc (no 0 c (by decide)), fun c _ hc => absurd hc (no 0 c (by decide))⟩, ⟨fun t k x ht => absurd ht tn_0, fun t t' k k' x ht => absurd ht tn_0⟩, fun t k n ht => absurd ht tn_0⟩, ⟨fun i q _ hq => ?_, fun i j q _ _ hq => ?_, fun i hi => ?_, fun t n hn => absurd hn List.not_mem_nil⟩, ⟨?_, ?_, ?_, ?_⟩, ⟨?_, fun i m hm => absurd hm (by show ¬ ([] : List Nat)[i]? = some m; simp), ?_, fun i e he => absurd he (by show ¬ ([] : List (Nat × Bool))[i]? = some e; simp), fun t n hn => absurd hn List.not_mem_nil⟩, fun c hc => ⟨?_, fun z => absurd (show false = true from z) (by decide)⟩, ⟨fun k _ => ?_, ?_, fun i v hv => absurd hv (by show ¬ ([] : List Int32)[i]? = some v; simp)⟩⟩
  · exact hinj c c' (lk c) hc hc' (hlk c hc).1 (by rw [show lk c = lk c' from e]; exact (hlk c' hc').1)
  · have : v' = v := by have := hCL 8 v' hv'; omega
    rw [this] at hq
    obtain ⟨y1, y2⟩ := hv i q hq
    exact ⟨y1, fun c hc z => y2 c hc (by rw [z]; exact (hlk c hc).1)⟩
  · rw [h9] at hq; exact absurd hq (by simp)
  · rw [h9] at hq; exact absurd hq (by simp)
  · rw [allF_0] at hi; exact absurd hi (by simp)
  · rw [allF_0, h5]; rfl
  · rw [z5]; rfl
  · rw [z6]; rfl
  · rw [z7]; rfl
  · rw [h7]; rfl
  · rw [h6, if_pos (show AS0.mk = [] from rfl)]; rfl
  · rw [a4]; exact ⟨fun z => absurd rfl z, fun z => absurd (show false = true from z) (by decide)⟩
  · rw [a1]; rfl
  · rw [i0]; rfl
theorem kc_init {x : HS} {o N : Nat} {X : String → HS → Prop} (hLP : x.LP = [o]) (hk : x.k o = 11) (hI : ∀ j, x.I o j = 0) (hc : 153096 + 16 * N + 94 ≤ x.c) (hz : 772800 + 100 * N + 20503 ≤ x.z) : w_X11_init (some o) x (fun u => KC o N AS0 u) X := by
  have h := kk_init (XF := X) (Q := fun u => KInv o N (fun _ => 0) u ∧ CY o u) hLP hk hI hc hz (fun u h h' => ⟨h, h'⟩)
  have h' : w_X11_init (some o) x (fun u => KInv o N (fun _ => 0) u ∧ CX o AS0 u) X := by
    refine fr_X11_init (P := Z1) (Z1_clo (by decide)) (fun u hu hq => ⟨hq.1, cx_0 hq.2 hu⟩) (fun a ha z => ?_) h
    rw [hLP, List.mem_singleton] at ha
    rw [ha] at z
    exact absurd (hk.symm.trans z) (by decide)
  refine fr_X11_init (P := Z0) (Z0_clo (by decide)) (fun u hu hq => ?_) (fun a ha => ?_) h'
  · refine ⟨⟨hq.1, ?_, ?_, by decide, by decide⟩, hq.2⟩
    · obtain ⟨b, g, s, hh, I, F, A, E, rfl, hkv, -⟩ := hq.1
      obtain ⟨s1, s2, s3, -⟩ := hkv.2.2.1
      have h0 := hkv.1
      have hs0 := c_arr h0 s3 (j := 0) (by decide)
      refine ⟨s, b.ad s 0, fun _ => 0, fun _ => 0, (cF_no h0 s1 (by decide)).trans s2, s3, cF_ow h0 s3 (by decide), ⟨hs0.2.1, hs0.2.2.1⟩, (hu s s3.1).2 s3.2, ⟨by decide, by decide⟩, fun t ht => ?_, fun t t' ht => ?_⟩
      · exact absurd ht (by show ¬ (t : Int) < (0 : Int32).toInt; rw [show (0 : Int32).toInt = 0 by decide]; omega)
      · exact absurd ht (by show ¬ (t : Int) < (0 : Int32).toInt; rw [show (0 : Int32).toInt = 0 by decide]; omega)
    · have ho : o ∈ u.LP ∧ u.k o = 11 := by
        obtain ⟨b, g, s, hh, I, F, A, E, rfl, hkv, -⟩ := hq.1
        exact hkv.2.2.1.1
      exact (hu o ho.1).1 ho.2
  · rw [hLP, List.mem_singleton] at ha
    rw [ha]
    exact ⟨fun _ => hI 9, fun z => absurd (hk.symm.trans z) (by decide)⟩
