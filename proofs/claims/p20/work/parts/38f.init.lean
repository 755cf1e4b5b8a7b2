set_option linter.unusedVariables false
/-- nothing on the tape, no tables -/
def Z0 (x : HS) : Prop := ∀ a, a ∈ x.LP → (x.k a = 11 → x.I a 9 = 0) ∧ (x.k a = 9 → x.I a 3 = 0)
theorem Z0_clo {WI WF : List (Nat × Nat)} {WJ WG : List Nat} (h : (11, 9) ∉ WI ∧ (9, 3) ∉ WI) : CloR WI WF WJ WG Z0 := by
  have nw : ∀ (x : HS) (q ci : Nat) (I : Nat → Nat → Int32), Z0 x → q ∉ x.LP → I q = (fun _ => 0) ∨ (ci ≠ 11 ∧ ci ≠ 9) → (∀ c, c ≠ q → I c = x.I c) → ∀ a, a ∈ x.LP ++ [q] → (va_up x.k q ci a = 11 → I a 9 = 0) ∧ (va_up x.k q ci a = 9 → I a 3 = 0) := fun x q ci I hz hq h1 h2 a ha => by
    by_cases e : a = q
    · subst e
      rw [va_up_self]
      rcases h1 with h1 | h1
      · rw [h1]; exact ⟨fun _ => rfl, fun _ => rfl⟩
      · exact ⟨fun z => absurd z h1.1, fun z => absurd z h1.2⟩
    · rw [va_up_ne _ _ e, h2 a e]
      exact hz a ((List.mem_append.mp ha).resolve_right (fun z => e (List.mem_singleton.mp z)))
  refine ⟨fun x a ci j v hz ha hk hj c hc => ⟨fun z => ?_, fun z => ?_⟩, fun x a ci j v hz _ _ _ => hz, fun x a f hz _ _ _ => hz, fun x a i v hz _ _ => hz, fun x c z hz => hz, fun x q ci N hz hq => ?_, fun x q kd N h20 hz hq => ?_, fun x q kd N h20 hz hq => ?_⟩
  · rw [← (hz c hc).1 z]; exact if_neg (fun y => h.1 (by rw [← z, y.2, y.1]; show (x.k a, j) ∈ WI; rw [hk]; exact hj))
  · rw [← (hz c hc).2 z]; exact if_neg (fun y => h.2 (by rw [← z, y.2, y.1]; show (x.k a, j) ∈ WI; rw [hk]; exact hj))
  · exact nw x q ci _ hz hq (Or.inl (va_up_self _ _ _)) (fun c hc => va_up_ne _ _ hc)
  · exact nw x q kd _ hz hq (Or.inr ⟨by omega, by omega⟩) (fun c hc => rfl)
  · exact nw x q kd _ hz hq (Or.inr ⟨by omega, by omega⟩) (fun c hc => rfl)
theorem kc1_init {x : HS} {o N : Nat} {X : String → HS → Prop} (hLP : x.LP = [o]) (hk : x.k o = 11) (hI : ∀ j, x.I o j = 0) (hc : 153096 + 16 * N + 94 ≤ x.c) (hz : 772800 + 100 * N + 20503 ≤ x.z) : w_X11_init (some o) x (fun u => KC1 o N A10 u) X := by
  have h := k_init (XF := X) (Q := fun u => KInv o N (fun _ => 0) u) hLP hk hI hc hz (fun u h => h)
  refine fr_X11_init (P := Z0) (Z0_clo (by decide)) (fun u hu hq => ?_) (fun a ha => ?_) h
  · refine ⟨hq, ?_, ?_, by decide, by decide⟩
    · obtain ⟨b, g, s, hh, I, F, A, E, rfl, hkv, -⟩ := hq
      obtain ⟨s1, s2, s3, -⟩ := hkv.2.2.1
      have h0 := hkv.1
      have hs0 := c_arr h0 s3 (j := 0) (by decide)
      refine ⟨s, b.ad s 0, fun _ => 0, fun _ => 0, (cF_no h0 s1 (by decide)).trans s2, s3, cF_ow h0 s3 (by decide), ⟨hs0.2.1, hs0.2.2.1⟩, (hu s s3.1).2 s3.2, ⟨by decide, by decide⟩, fun t ht => ?_, fun t t' ht => ?_⟩
      · exact absurd ht (by show ¬ (t : Int) < (0 : Int32).toInt; rw [show (0 : Int32).toInt = 0 by decide]; omega)
      · exact absurd ht (by show ¬ (t : Int) < (0 : Int32).toInt; rw [show (0 : Int32).toInt = 0 by decide]; omega)
    · have ho : o ∈ u.LP ∧ u.k o = 11 := by
        obtain ⟨b, g, s, hh, I, F, A, E, rfl, hkv, -⟩ := hq
        exact hkv.2.2.1.1
      exact (hu o ho.1).1 ho.2
  · rw [hLP, List.mem_singleton] at ha
    rw [ha]
    exact ⟨fun _ => hI 9, fun z => absurd (hk.symm.trans z) (by decide)⟩
