set_option linter.unusedVariables false
set_option linter.unusedSimpArgs false
/-! the class: fact, key -/
theorem bit_lt0 : ∀ i : Fin 16, ∀ c : Fin 5, ∀ k : Fin 4, i.val < 2 ^ c.val → bitm (Int32.ofNat i.val) k.val = true → k.val < c.val := by decide
theorem bit_lt {m c : Int32} (hc : 1 ≤ c.toInt ∧ c.toInt ≤ 4) (hm : 1 ≤ m.toInt ∧ m.toInt < 2 ^ c.toInt.toNat) {k : Nat} (hk : k < 4) (hb : bitm m k = true) : (k : Int) < c.toInt := by
  have h16 : (2 : Int) ^ c.toInt.toNat ≤ 16 := by
    have : c.toInt.toNat = 1 ∨ c.toInt.toNat = 2 ∨ c.toInt.toNat = 3 ∨ c.toInt.toNat = 4 := by omega
    rcases this with z | z | z | z <;> rw [z] <;> decide
  have e1 : m = Int32.ofNat m.toInt.toNat := i_of (by omega)
  have hp : m.toInt.toNat < 2 ^ c.toInt.toNat := by
    have h2 : ((m.toInt.toNat : Nat) : Int) < ((2 ^ c.toInt.toNat : Nat) : Int) := by
      rw [Int.natCast_pow]
      have : ((m.toInt.toNat : Nat) : Int) = m.toInt := by omega
      rw [this]; exact hm.2
    exact Int.ofNat_lt.mp h2
  rw [e1] at hb
  have := bit_lt0 ⟨m.toInt.toNat, by omega⟩ ⟨c.toInt.toNat, by omega⟩ ⟨k, hk⟩ hp hb
  have this : k < c.toInt.toNat := this
  omega
section VN1
variable {b : CT} {I I' : Nat → Nat → Int32} {F F' : Nat → Nat → Option Nat} {A A' : Nat → Nat → Nat → Int32} {E E' : Nat → Nat → Nat → Option Nat} {o t n n' k f p w j ci q s h l N : Nat} {a : AS} {g : CGs} {lk d r ct fa : Nat → Nat} {x y : HS} {X X' : String → HS → Prop} {Q Q' : HS → Prop} {QI QI' : Int32 → HS → Prop} {QF QF' : Option Nat → HS → Prop} {m : Int32} {T : Int} {la : Option Nat} {vs : Nat → Int32} {ov : Bool}
theorem qc_withNumber (hx : CXx o a g b I F A E) (hV : AV a) {n : Int32} (h0 : ¬ (0 ≤ n.toInt ∧ n.toInt.toNat ∈ allF a) → QF none (cS b I F A E) → QF' none (cS b I F A E)) (h1 : ∀ t k, k ∈ a.rw t → n.toInt = (k : Int) → QF (some (g.fa k)) (cS b I F A E) → QF' (some (g.fa k)) (cS b I F A E)) : w_X9_withNumber (some g.s) n (cS b I F A E) QF X → w_X9_withNumber (some g.s) n (cS b I F A E) QF' X' := by
  obtain ⟨hb, hs, ht, hFa, hR, hK, hN, -⟩ := id hx
  have hle := hV.1.2.2.2.2.2.2.1
  unfold w_X9_withNumber
  refine qc_loop0 (fun v => ∃ i : Nat, v.toInt = (i : Int) ∧ i ≤ (allF a).length ∧ ∀ j, j < i → ∀ t k, k ∈ a.rw t → E g.s 1 j = some (g.fa k) → n.toInt ≠ (k : Int)) ⟨0, by decide, by omega, fun j hj => absurd hj (by omega)⟩ (fun v again again' ⟨i, i1, i2, i3⟩ ha => ?_)
  refine qc_getI (fun _ => ?_)
  refine qv_if (fun z => h0 (fun y => ?_)) (fun z => ?_)
  · simp only [i32] at z
    rw [hN.1] at z
    obtain ⟨t, hk⟩ := (mem_allF hV.1).mp y.2
    obtain ⟨j, j1, j2⟩ := hK.2.2.2 t _ hk
    exact i3 j (by omega) t _ hk j2 (by omega)
  · simp only [i32] at z
    rw [hN.1] at z
    have hlt : i < (allF a).length := by omega
    obtain ⟨t, k, hk, e⟩ := hK.2.2.1 i hlt
    have hFk := hFa t k hk
    refine qc_getA hb (by decide) (fun _ => ?_)
    refine qc_aldG hb hs.2.2.1 (by decide) (by decide) (fun _ => ?_)
    rw [ix_of i1, e]
    refine qc_getI (fun _ => ?_)
    refine qv_if (fun z2 => ?_) (fun z2 => ?_)
    · refine qc_getA hb (by decide) (fun _ => ?_)
      refine qc_aldG hb hs.2.2.1 (by decide) (by decide) (fun _ => ?_)
      rw [ix_of i1, e]
      exact h1 t k hk (by rw [← z2]; exact hFk.2.2.2.1)
    · refine ha _ ⟨i + 1, by rw [i_add i1 (show (1 : Int32).toInt = 1 by decide) (by omega)]; omega, by omega, fun j hj t' k' hk' e' => ?_⟩
      by_cases ej : j = i
      · subst ej
        rw [e] at e'
        have ek : k = k' := fa_inj hFk (hFa t' k' hk') (Option.some.inj e')
        subst ek
        exact fun y => z2 (i_ext (by rw [hFk.2.2.2.1, y]))
      · exact i3 j (by omega) t' k' hk' e'
theorem qc_ahead (hx : CXx o a g b I F A E) (hV : AV a) (ht : inT a t) (hn : n ∈ a.rw t) (h : QI (num ((a.rw t).idxOf n)) (cS b I F A E) → QI' (num ((a.rw t).idxOf n)) (cS b I F A E)) : w_X0_factsAhead (some (g.r t)) (some (g.fa n)) (cS b I F A E) QI X → w_X0_factsAhead (some (g.r t)) (some (g.fa n)) (cS b I F A E) QI' X' := by
  obtain ⟨hb, hs, htb, hFa, hR, -⟩ := id hx
  obtain ⟨t1, t2, t3, t4, t5, t6, t7, t8, -⟩ := htb.2 t ht
  have hrl := row_le hV t
  unfold w_X0_factsAhead
  refine qc_getF hb (by decide) (fun _ => ?_)
  refine qc_loop0 (fun v => ∃ C S, a.rw t = C ++ S ∧ LnO (fun q => E q 1 4) v.2 (S.map g.fa) ∧ v.1.toInt = (C.length : Int) ∧ n ∉ C) ⟨[], a.rw t, rfl, row_LnO hR ⟨t6, t7, t8⟩, by show (0 : Int32).toInt = ((0 : Nat) : Int); decide, List.not_mem_nil⟩ (fun v again again' ⟨C, S, s1, s2, s3, s4⟩ ha => ?_)
  dsimp only [wJoin]
  obtain ⟨vc, vp⟩ := v
  dsimp only at s2 s3 ⊢
  cases vp with
  | none =>
    have hS0 : S = [] := List.map_eq_nil_iff.mp (LnO_none s2)
    rw [hS0, List.append_nil] at s1
    rw [s1] at hn
    exact absurd hn s4
  | some fq =>
    refine qv_if (fun z => absurd z (by simp)) (fun _ => ?_)
    obtain ⟨S', eS, hS'⟩ := LnO_some s2
    cases S with
    | nil => simp at eS
    | cons k S =>
      rw [List.map_cons] at eS
      have ef : fq = g.fa k := (List.cons.inj eS).1.symm
      have eS' : S' = S.map g.fa := (List.cons.inj eS).2.symm
      subst ef; subst eS'
      have hk : k ∈ a.rw t := by rw [s1]; exact List.mem_append_right _ List.mem_cons_self
      refine qv_if (fun z => ?_) (fun z => ?_)
      · have ek : k = n := fa_inj (hFa t k hk) (hFa t n hn) (Option.some.inj z)
        subst ek
        have : (a.rw t).idxOf k = C.length := by rw [s1]; exact idx_split s4
        rw [this] at h
        rw [num_of s3]; exact h
      · have hne : k ≠ n := fun y => z (by rw [y])
        refine qc_getA hb (by decide) (fun _ => ?_)
        refine qc_getI (fun _ => ?_)
        refine qc_aldG hb (hFa t k hk).1 (by decide) (by decide) (fun _ => ?_)
        have e4 : ix (I (g.r t) 0) = 4 := by rw [t7]; decide
        rw [e4]
        have hCl : C.length < 3000 := by
          rw [s1, List.length_append, List.length_cons] at hrl; omega
        refine ha _ ⟨C ++ [k], S, by rw [s1]; simp, hS', ?_, fun y => ?_⟩
        · show (vc + 1).toInt = _
          rw [i_add s3 (show (1 : Int32).toInt = 1 by decide) (by omega), List.length_append]; rfl
        · rcases List.mem_append.mp y with y | y
          · exact s4 y
          · exact hne (List.mem_singleton.mp y).symm
theorem kc_fact (hk : KC o (N + 1) a x) (hW : AVT a) (n w : Int32) : w_X11_fact (some o) n w x (fun r u => OK_fact a n w 0 r ∧ KC o N (nx_fact a n w) u) (fun E u => (E = eIA ∧ OK_fact a n w 1 0 ∨ E = eNE ∧ OK_fact a n w 2 0) ∧ KC o N (nx_fact a n w) u) := by
  have h := kc1_fact hk.1 n w
  obtain ⟨g, b, I, F, A, E, rfl, hz, hx⟩ := hk.2
  have hV := hW.1
  have hb := hx.1
  have hs := hx.2.1
  have e7 : (7 : Int32).toInt = 7 := by decide
  have e0 : (0 : Int32).toInt = 0 := by decide
  revert h
  unfold w_X11_fact OK_fact nx_fact
  refine qc_range (fun c1 c2 => ?_) (fun c h => ⟨Or.inl ⟨rfl, EX_bad (if_neg (fun z => c (by rw [e7, e0]; exact z))) (by decide)⟩, h.2, CX_wC hz hx⟩)
  rw [e0] at c1
  rw [e7] at c2
  have hw : 0 ≤ w.toInt ∧ w.toInt ≤ 7 := ⟨c1, c2⟩
  refine qc_getF hb (by decide) (fun _ => ?_)
  rw [hs.2.1]
  refine qc_recv (fun _ => ?_)
  refine qc_withNumber hx hV (fun c => ?_) (fun t k hk' hnk => ?_)
  · refine qv_if (fun _ => ?_) (fun z => absurd rfl z)
    exact qc_throw (fun h => ⟨Or.inr ⟨rfl, EX_bad ((if_pos hw).trans (if_neg c)) (by decide)⟩, h.2, CX_wC hz hx⟩)
  · refine qv_if (fun z => absurd z (by simp)) (fun _ => ?_)
    have hkn : n.toInt.toNat = k := by omega
    have hFk := hx.2.2.2.1 t k hk'
    have hft := (hV.1.2.2.2.1 t k hk').2.1
    have hti : inT a t := Classical.byContradiction (fun z => by rw [hV.1.1 t z] at hk'; exact absurd hk' List.not_mem_nil)
    obtain ⟨t1, t2, t3, t4, t5, t6, t7, t8, -⟩ := hx.2.2.1.2 t hti
    have ecd : factCd a n w = 0 := (if_pos hw).trans (if_pos ⟨by omega, by rw [hkn]; exact (mem_allF hV.1).mpr ⟨t, hk'⟩⟩)
    rw [hkn]
    have fin : ∀ {PP : Prop} (v : Int32), v = factR a k w.toInt → PP ∧ KC1 o N (nx1_fact a.1 n w) (cS b I F A E) → EX (factCd a n w) (factR a k w.toInt) 0 v ∧ KC o N a (cS b I F A E) := fun {PP} v hv h => ⟨EX_ok ecd hv, h.2, _, _, _, _, _, _, rfl, hz, hx⟩
    have wn : ∀ (j : Int32) (m : Int), j.toInt = m → (w = j ↔ w.toInt = m) := fun j m hj => ⟨fun z => by rw [z]; exact hj, fun z => i_ext (by rw [z]; exact hj.symm)⟩
    have w4 := wn 4 4 (by decide)
    have w5 := wn 5 5 (by decide)
    have w6 := wn 6 6 (by decide)
    have w7 := wn 7 7 (by decide)
    refine qv_if (fun z => ?_) (fun z4 => qv_if (fun z => ?_) (fun z5 => qv_if (fun z => ?_) (fun z6 => qv_if (fun z => ?_) (fun z7 => ?_))))
    · refine qc_getF hb (by decide) (fun _ => ?_)
      rw [hFk.2.1]
      refine qc_getI (fun _ => fin _ ?_)
      unfold factR
      rw [if_pos (w4.mp z), hft]
      exact num_of t3
    · refine qc_getI (fun _ => fin _ ?_)
      unfold factR
      rw [if_neg (fun y => z4 (w4.mpr y)), if_pos (w5.mp z)]
      exact ofI hFk.2.2.2.2.1
    · refine qc_getI (fun _ => fin _ ?_)
      unfold factR
      rw [if_neg (fun y => z4 (w4.mpr y)), if_neg (fun y => z5 (w5.mpr y)), if_pos (w6.mp z)]
      exact ofI hFk.2.2.2.2.2
    · refine qc_getF hb (by decide) (fun _ => ?_)
      rw [hFk.2.1]
      refine qc_getF hb (by decide) (fun _ => ?_)
      rw [t5]
      refine qc_recv (fun _ => ?_)
      refine qc_ahead hx hV hti hk' (fin _ ?_)
      unfold factR
      rw [if_neg (fun y => z4 (w4.mpr y)), if_neg (fun y => z5 (w5.mpr y)), if_neg (fun y => z6 (w6.mpr y)), if_pos (w7.mp z), hft]
    · refine qc_getA hb (by decide) (fun _ => ?_)
      refine qc_ald hb hFk.1 (by decide) (by decide) (fun _ => fin _ ?_)
      unfold factR
      rw [if_neg (fun y => z4 (w4.mpr y)), if_neg (fun y => z5 (w5.mpr y)), if_neg (fun y => z6 (w6.mpr y)), if_neg (fun y => z7 (w7.mpr y))]
      have h4 : ¬ w.toInt = 4 := fun y => z4 (w4.mpr y)
      have h5 : ¬ w.toInt = 5 := fun y => z5 (w5.mpr y)
      have h6 : ¬ w.toInt = 6 := fun y => z6 (w6.mpr y)
      have h7 : ¬ w.toInt = 7 := fun y => z7 (w7.mpr y)
      exact hFk.2.2.1 (ix w) (by unfold ix; omega)
/-! keys -/
theorem qc_nowFrom (hx : CXx o a g b I F A E) (hV : AV a) {v : Option Nat} {S : List Nat} (hS : LnO (fun q => E q 1 4) v (S.map g.fa)) (hm : ∀ n, n ∈ S → n ∈ a.rw t) (hw : Is b ci w) (hk : oF ci j = 20) {pp : Nat → Bool} (hp : ∀ n, n ∈ S → fitC A (g.fa n) m w j = pp n) (h : QI (if S.any (fun n => aliveB a n && pp n) then 1 else 0) (cS b I F A E) → QI' (if S.any (fun n => aliveB a n && pp n) then 1 else 0) (cS b I F A E)) : w_X10_isThereNowFrom v m (some (b.ad w j)) (cS b I F A E) QI X → w_X10_isThereNowFrom v m (some (b.ad w j)) (cS b I F A E) QI' X' := by
  obtain ⟨hb, hs, htb, hFa, -⟩ := id hx
  unfold w_X10_isThereNowFrom
  refine qc_loop0 (fun v => ∃ C S', S = C ++ S' ∧ LnO (fun q => E q 1 4) v (S'.map g.fa) ∧ C.any (fun n => aliveB a n && pp n) = false) ⟨[], S, rfl, hS, rfl⟩ (fun v again again' ⟨C, S', s1, s2, s3⟩ ha => ?_)
  cases v with
  | none =>
    refine qv_if (fun _ => qc_bit ?_) (fun z => absurd rfl z)
    have hS0 : S' = [] := List.map_eq_nil_iff.mp (LnO_none s2)
    rw [hS0, List.append_nil] at s1
    rw [s1, s3] at h
    exact h
  | some fq =>
    refine qv_if (fun z => absurd z (by simp)) (fun _ => ?_)
    obtain ⟨S2, eS, hS2⟩ := LnO_some s2
    cases S' with
    | nil => simp at eS
    | cons n S' =>
      rw [List.map_cons] at eS
      have ef : fq = g.fa n := (List.cons.inj eS).1.symm
      have eS' : S2 = S'.map g.fa := (List.cons.inj eS).2.symm
      subst ef; subst eS'
      have hnS : n ∈ S := by rw [s1]; exact List.mem_append_right _ List.mem_cons_self
      have hn := hm n hnS
      have hFn := hFa t n hn
      have nxt : (aliveB a n && pp n) = false → (wGetF (cS b I F A E) 1 1 (some (g.fa n)) fun v9 => wAldG (cS b I F A E) 25 v9 4 fun v10 => again v10 (cS b I F A E)) → (wGetF (cS b I F A E) 1 1 (some (g.fa n)) fun v9 => wAldG (cS b I F A E) 25 v9 4 fun v10 => again' v10 (cS b I F A E)) := fun hno => by
        refine qc_getA hb (by decide) (fun _ => ?_)
        refine qc_aldG hb hFn.1 (by decide) (by decide) (fun _ => ?_)
        refine ha _ ⟨C ++ [n], S', by rw [s1]; simp, hS2, ?_⟩
        rw [List.any_append, s3]
        simp [hno]
      refine qc_recv (fun _ => ?_)
      refine qc_isNow (fun _ => ?_)
      rw [now_fa hFn hV hn]
      dsimp only [wJoin]
      cases hal : aliveB a n with
      | false => exact qv_if (fun _ => nxt (by rw [hal]; rfl)) (fun z => absurd rfl z)
      | true =>
        refine qv_if (fun z => absurd z (by decide)) (fun _ => ?_)
        refine qc_recv (fun _ => ?_)
        refine qc_fits hb hFn.1 hw hk ?_
        rw [hp n hnS]
        cases hfi : pp n with
        | false => exact qv_if (fun _ => nxt (by rw [hal, hfi]; rfl)) (fun z => absurd rfl z)
        | true =>
          refine qv_if (fun z => absurd z (by decide)) (fun _ => qc_bit ?_)
          have : S.any (fun n => aliveB a n && pp n) = true := List.any_eq_true.mpr ⟨n, hnS, by rw [hal, hfi]; rfl⟩
          rw [this] at h; exact h
theorem qc_hasTwins (hx : CXx o a g b I F A E) (hV : AV a) (ht : inT a t) (h : QI (if twinB a m (a.rw t) then 1 else 0) (cS b I F A E) → QI' (if twinB a m (a.rw t) then 1 else 0) (cS b I F A E)) : w_X10_hasTwins (some (g.d t)) m (cS b I F A E) QI X → w_X10_hasTwins (some (g.d t)) m (cS b I F A E) QI' X' := by
  obtain ⟨hb, hs, htb, hFa, hR, -⟩ := id hx
  obtain ⟨t1, t2, t3, t4, t5, t6, t7, t8, -⟩ := htb.2 t ht
  unfold w_X10_hasTwins
  refine qc_getF hb (by decide) (fun _ => ?_)
  rw [t5]
  refine qc_getF hb (by decide) (fun _ => ?_)
  refine qc_loop0 (fun v => ∃ C S, a.rw t = C ++ S ∧ LnO (fun q => E q 1 4) v (S.map g.fa) ∧ twinB a m (a.rw t) = twinB a m S) ⟨[], a.rw t, rfl, row_LnO hR ⟨t6, t7, t8⟩, rfl⟩ (fun v again again' ⟨C, S, s1, s2, s3⟩ ha => ?_)
  cases v with
  | none =>
    refine qv_if (fun _ => qc_bit ?_) (fun z => absurd rfl z)
    have hS0 : S = [] := List.map_eq_nil_iff.mp (LnO_none s2)
    rw [hS0] at s3
    rw [s3] at h; exact h
  | some fq =>
    refine qv_if (fun z => absurd z (by simp)) (fun _ => ?_)
    obtain ⟨S2, eS, hS2⟩ := LnO_some s2
    cases S with
    | nil => simp at eS
    | cons n S =>
      rw [List.map_cons] at eS
      have ef : fq = g.fa n := (List.cons.inj eS).1.symm
      have eS' : S2 = S.map g.fa := (List.cons.inj eS).2.symm
      subst ef; subst eS'
      have hn : n ∈ a.rw t := by rw [s1]; exact List.mem_append_right _ List.mem_cons_self
      have hFn := hFa t n hn
      have hSm : ∀ k, k ∈ S → k ∈ a.rw t := fun k hk => by rw [s1]; exact List.mem_append_right _ (List.mem_cons_of_mem _ hk)
      have e3 : twinB a m (n :: S) = ((aliveB a n && S.any (fun g => aliveB a g && likeB a m n g)) || twinB a m S) := rfl
      rw [e3] at s3
      have nxt : (aliveB a n && S.any (fun g => aliveB a g && likeB a m n g)) = false → (wGetF (cS b I F A E) 1 1 (some (g.fa n)) fun v11 => wAldG (cS b I F A E) 25 v11 4 fun v12 => again v12 (cS b I F A E)) → (wGetF (cS b I F A E) 1 1 (some (g.fa n)) fun v11 => wAldG (cS b I F A E) 25 v11 4 fun v12 => again' v12 (cS b I F A E)) := fun hno => by
        refine qc_getA hb (by decide) (fun _ => ?_)
        refine qc_aldG hb hFn.1 (by decide) (by decide) (fun _ => ?_)
        refine ha _ ⟨C ++ [n], S, by rw [s1]; simp, hS2, ?_⟩
        rw [s3, hno]; rfl
      refine qc_recv (fun _ => ?_)
      refine qc_isNow (fun _ => ?_)
      rw [now_fa hFn hV hn]
      dsimp only [wJoin]
      cases hal : aliveB a n with
      | false => exact qv_if (fun _ => nxt (by rw [hal]; rfl)) (fun z => absurd rfl z)
      | true =>
        refine qv_if (fun z => absurd z (by decide)) (fun _ => ?_)
        refine qc_getA hb (by decide) (fun _ => ?_)
        refine qc_aldG hb hFn.1 (by decide) (by decide) (fun _ => ?_)
        refine qc_getA hb (by decide) (fun _ => ?_)
        refine qc_nowFrom hx hV (t := t) (S := S) hS2 hSm hFn.1 (by decide) (pp := likeB a m n) (fun k hk => ?_) ?_
        · unfold fitC likeB
          rw [Bool.eq_iff_iff, range_all, range_all]
          refine forall_congr' (fun c => forall_congr' (fun hc => ?_))
          unfold okC
          rw [(hFa t k (hSm k hk)).2.2.1 c hc, hFn.2.2.1 c hc]
          have : (a.fc k c == a.fc n c) = (a.fc n c == a.fc k c) := by rw [Bool.eq_iff_iff]; simp only [beq_iff_eq]; exact eq_comm
          rw [this]
        · cases han : S.any (fun g => aliveB a g && likeB a m n g) with
          | false => exact qv_if (fun _ => nxt (by rw [hal, han]; rfl)) (fun z => absurd rfl z)
          | true =>
            refine qv_if (fun z => absurd z (by decide)) (fun _ => qc_bit ?_)
            have : twinB a m (a.rw t) = true := by rw [s3, hal, han]; rfl
            rw [this] at h; exact h
theorem fit_key (hV : AV a) (ht : inT a t) (hmk : m ∈ a.ky t) (hF : CF1 a b d fa I F A t n) (hv : ∀ k, k < 4 → A w j k = vs k) : fitC A (fa n) m w j = fitB a t m vs n := by
  refine fit_fa hF (fun k hk => ?_) hv
  have h := (hV.2.1.2 t ht).2
  cases hbm : bitm m k with
  | false => rfl
  | true =>
    have := bit_lt h.1 (h.2 m hmk) hk hbm
    rw [decide_eq_true this]; rfl
theorem qc_breaksKey (hx : CXx o a g b I F A E) (hV : AV a) (ht : inT a t) (h : QI (if breakB a t then 1 else 0) (cS b I F A E) → QI' (if breakB a t then 1 else 0) (cS b I F A E)) : w_X10_breaksKey (some (g.d t)) (some (b.ad o 1)) (cS b I F A E) QI X → w_X10_breaksKey (some (g.d t)) (some (b.ad o 1)) (cS b I F A E) QI' X' := by
  obtain ⟨hb, hs, htb, hFa, hR, hK, hN, hH, hC, hO⟩ := id hx
  obtain ⟨t1, t2, t3, t4, t5, t6, t7, t8, t9, t10⟩ := htb.2 t ht
  have hl3 := (hV.2.1.2 t ht).1
  unfold w_X10_breaksKey
  refine qc_loop0 (fun v => ∃ i : Nat, v.toInt = (i : Int) ∧ i ≤ (a.ky t).length ∧ ∀ k, k < i → ∀ m, (a.ky t)[k]? = some m → (a.rw t).any (fun n => aliveB a n && fitB a t m a.vv n) = false) ⟨0, by decide, by omega, fun k hk => absurd hk (by omega)⟩ (fun v again again' ⟨i, i1, i2, i3⟩ ha => ?_)
  refine qc_getI (fun _ => ?_)
  refine qv_if (fun z => qc_bit ?_) (fun z => ?_)
  · simp only [i32] at z
    rw [t9] at z
    have : breakB a t = false := by
      unfold breakB
      rw [List.any_eq_false]
      intro m hm hno
      obtain ⟨k, hk, e⟩ := List.mem_iff_getElem.mp hm
      have := i3 k (by omega) m (by rw [List.getElem?_eq_getElem hk, e])
      rw [this] at hno; exact absurd hno (by decide)
    rw [this] at h; exact h
  · simp only [i32] at z
    rw [t9] at z
    have hlt : i < (a.ky t).length := by omega
    have hget := List.getElem?_eq_getElem hlt
    have hmem : (a.ky t)[i] ∈ a.ky t := List.getElem_mem hlt
    refine qc_getF hb (by decide) (fun _ => ?_)
    rw [t5]
    refine qc_getF hb (by decide) (fun _ => ?_)
    refine qc_getA hb (by decide) (fun _ => ?_)
    refine qc_ald hb t2 (by decide) (by decide) (fun _ => ?_)
    rw [ix_of i1, t10 i _ hget]
    refine qc_nowFrom hx hV (t := t) (S := a.rw t) (row_LnO hR ⟨t6, t7, t8⟩) (fun _ h => h) hs.1 (by decide) (pp := fitB a t (a.ky t)[i] a.vv) (fun n hn => fit_key hV ht hmem (hFa t n hn) hO.1) ?_
    cases han : (a.rw t).any (fun n => aliveB a n && fitB a t (a.ky t)[i] a.vv n) with
    | false =>
      refine qv_if (fun _ => ?_) (fun z => absurd rfl z)
      refine ha _ ⟨i + 1, by rw [i_add i1 (show (1 : Int32).toInt = 1 by decide) (by omega)]; omega, by omega, fun k hk m hm => ?_⟩
      by_cases ek : k = i
      · subst ek
        rw [hget] at hm
        cases hm; exact han
      · exact i3 k (by omega) m hm
    | true =>
      refine qv_if (fun z => absurd z (by decide)) (fun _ => qc_bit ?_)
      have : breakB a t = true := List.any_eq_true.mpr ⟨_, hmem, han⟩
      rw [this] at h; exact h
theorem qc_hasKey (hx : CXx o a g b I F A E) (hV : AV a) (ht : inT a t) (h : QI (if m ∈ a.ky t then 1 else 0) (cS b I F A E) → QI' (if m ∈ a.ky t then 1 else 0) (cS b I F A E)) : w_X10_hasKey (some (g.d t)) m (cS b I F A E) QI X → w_X10_hasKey (some (g.d t)) m (cS b I F A E) QI' X' := by
  obtain ⟨hb, hs, htb, -⟩ := id hx
  obtain ⟨t1, t2, t3, t4, t5, t6, t7, t8, t9, t10⟩ := htb.2 t ht
  have hl3 := (hV.2.1.2 t ht).1
  unfold w_X10_hasKey
  refine qc_loop0 (fun v => ∃ i : Nat, v.toInt = (i : Int) ∧ i ≤ (a.ky t).length ∧ ∀ k, k < i → (a.ky t)[k]? ≠ some m) ⟨0, by decide, by omega, fun k hk => absurd hk (by omega)⟩ (fun v again again' ⟨i, i1, i2, i3⟩ ha => ?_)
  refine qc_getI (fun _ => ?_)
  refine qv_if (fun z => qc_bit ?_) (fun z => ?_)
  · simp only [i32] at z
    rw [t9] at z
    have : ¬ m ∈ a.ky t := fun hm => by
      obtain ⟨k, hk, e⟩ := List.mem_iff_getElem.mp hm
      exact i3 k (by omega) (by rw [List.getElem?_eq_getElem hk, e])
    rw [if_neg this] at h; exact h
  · simp only [i32] at z
    rw [t9] at z
    have hlt : i < (a.ky t).length := by omega
    have hget := List.getElem?_eq_getElem hlt
    refine qc_getA hb (by decide) (fun _ => ?_)
    refine qc_ald hb t2 (by decide) (by decide) (fun _ => ?_)
    rw [ix_of i1, t10 i _ hget]
    refine qv_if (fun z2 => qc_bit ?_) (fun z2 => ?_)
    · have : m ∈ a.ky t := by rw [← z2]; exact List.getElem_mem hlt
      rw [if_pos this] at h; exact h
    · refine ha _ ⟨i + 1, by rw [i_add i1 (show (1 : Int32).toInt = 1 by decide) (by omega)]; omega, by omega, fun k hk => ?_⟩
      by_cases ek : k = i
      · subst ek
        rw [hget]
        exact fun y => z2 (Option.some.inj y)
      · exact i3 k (by omega)
theorem kc_key (hk : KC o (N + 1) a x) (hW : AVT a) (t m : Int32) : w_X11_key (some o) t m x (fun r u => OK_key a t m 0 r ∧ KC o N (nx_key a t m) u) (fun E u => (E = eIA ∧ OK_key a t m 2 0 ∨ E = eNE ∧ OK_key a t m 1 0 ∨ E = eIS ∧ OK_key a t m 3 0 ∨ E = eIB ∧ OK_key a t m 4 0) ∧ KC o N (nx_key a t m) u) := by
  have h := kc1_key hk.1 t m
  obtain ⟨g, b, I, F, A, E, rfl, hz, hx⟩ := hk.2
  have hV := hW.1
  have hb := hx.1
  have hs := hx.2.1
  revert h
  have n1 : keyNew a t m → nx_key a t m = a.w_ky (va_up a.ky (ix t) (a.ky (ix t) ++ [m])) := fun z => if_pos z
  have n0 : ¬ keyNew a t m → nx_key a t m = a := fun z => if_neg z
  generalize nx_key a t m = nx at n1 n0 ⊢
  unfold w_X11_key
  refine qc_recv (fun _ => ?_)
  refine qc_tableOf hx (fun c h => ?_) (fun ct' => ?_)
  · rw [n0 (fun z => c z.1)]
    exact ⟨Or.inr (Or.inl ⟨rfl, trivial⟩), h.2, CX_wC hz hx⟩
  have hti := tab_in ct'
  obtain ⟨t1, t2, t3, t4, t5, t6, t7, t8, t9, t10⟩ := hx.2.2.1.2 _ hti
  have hco := (hV.2.1.2 _ hti).2.1
  refine qc_recv (fun _ => ?_)
  unfold w_X10_allColumns
  refine qc_getI (fun _ => ?_)
  rw [t4]
  have hsh : (((1 : Int32) <<< (a.co (ix t) &&& 31)) - 1).toInt = 2 ^ (a.co (ix t)).toInt.toNat - 1 := by
    have h16 : (2 : Int) ^ (a.co (ix t)).toInt.toNat ≤ 16 ∧ 1 ≤ (2 : Int) ^ (a.co (ix t)).toInt.toNat := by
      have : (a.co (ix t)).toInt.toNat = 1 ∨ (a.co (ix t)).toInt.toNat = 2 ∨ (a.co (ix t)).toInt.toNat = 3 ∨ (a.co (ix t)).toInt.toNat = 4 := by omega
      rcases this with z | z | z | z <;> rw [z] <;> decide
    exact i_sub (shl_co hco) (by decide) (by omega)
  have e1 : (1 : Int32).toInt = 1 := by decide
  refine qc_range (fun c1 c2 => ?_) (fun c h => ?_)
  rotate_left
  · rw [n0 (fun z => c (by rw [e1, hsh]; have := z.2.1; omega))]
    exact ⟨Or.inl ⟨rfl, trivial⟩, h.2, CX_wC hz hx⟩
  rw [e1] at c1
  rw [hsh] at c2
  have hm : 1 ≤ m.toInt ∧ m.toInt < 2 ^ (a.co (ix t)).toInt.toNat := ⟨c1, by omega⟩
  refine qc_recv (fun _ => ?_)
  refine qc_hasTwins hx hV hti ?_
  cases htw : twinB a m (a.rw (ix t)) with
  | true =>
    refine qv_if (fun z => absurd z (by decide)) (fun _ => ?_)
    refine qc_throw (fun h => ?_)
    rw [n0 (fun z => by have := z.2.2.2.1; rw [htw] at this; exact absurd this (by decide))]
    exact ⟨Or.inr (Or.inr (Or.inl ⟨rfl, trivial⟩)), h.2, CX_wC hz hx⟩
  | false =>
    refine qv_if (fun _ => ?_) (fun z => absurd rfl z)
    refine qc_recv (fun _ => ?_)
    refine qc_hasKey hx hV hti ?_
    by_cases hmem : m ∈ a.ky (ix t)
    · rw [if_pos hmem]
      refine qv_if (fun z => absurd z (by decide)) (fun _ h => ?_)
      rw [n0 (fun z => z.2.2.1 hmem)]
      exact ⟨trivial, h.2, _, _, _, _, _, _, rfl, hz, hx⟩
    · rw [if_neg hmem]
      refine qv_if (fun _ => ?_) (fun z => absurd rfl z)
      refine qc_recv (fun _ => ?_)
      unfold w_X10_makeKey
      refine qc_getI (fun _ => ?_)
      refine qv_if (fun z => ?_) (fun z => ?_)
      · simp only [i32, Int32.reduceToInt] at z
        rw [t9] at z
        have hl : (a.ky (ix t)).length < 3 := by omega
        refine qc_getA hb (by decide) (fun _ => ?_)
        refine qc_getI (fun _ => ?_)
        refine qc_astI hb t2 (by decide) (fun _ => ?_)
        refine qc_getI (fun _ => ?_)
        refine qc_putI (fun _ => ?_)
        refine qc_bit ?_
        refine qv_if (fun z => absurd z (by decide)) (fun _ h => ?_)
        rw [n1 ⟨ct', hm, hmem, htw, hl⟩]
        refine ⟨trivial, h.2, g, _, _, _, _, _, rfl, hz, ?_⟩
        have i5 : (I (g.d (ix t)) 5 + 1).toInt = (((a.ky (ix t)).length + 1 : Nat) : Int) := by rw [i_add t9 (show (1 : Int32).toInt = 1 by decide) (by omega)]; omega
        obtain ⟨-, -, htb, hFa, hR, hK, hN, hH, hC, hO⟩ := id hx
        have hd : ∀ t, inT a t → Is b 10 (g.d t) := fun t h => (htb.2 t h).2.1
        have hfa : ∀ t n, n ∈ a.rw t → Is b 1 (g.fa n) := fun t n h => (hFa t n h).1
        have dne : ∀ t', inT a t' → t' ≠ ix t → g.d t' ≠ g.d (ix t) := fun t' ht' hne z => by
          have y1 := (htb.2 t' ht').2.2.1
          rw [z, t3] at y1
          exact hne (by omega)
        have sI' : ∀ S : List (Nat × Nat), (10, 5) ∉ S → sI b S I (up2 I (g.d (ix t)) 5 (I (g.d (ix t)) 5 + 1)) := fun S h2 => sI_up sI_rf t2 h2
        have sA' : ∀ S : List (Nat × Nat), (10, 4) ∉ S → sA b S A (up3 A (g.d (ix t)) 4 (ix (I (g.d (ix t)) 5)) m) := fun S h2 => sA_up sA_rf t2 h2
        refine ⟨hb, hs, ?_, fun t n hn => CF1_eq (hFa t n hn) (fun _ _ h => h) (sI' _ (by decide)) sF_rf (sA' _ (by decide)), CXr_eq hR hd hfa (sI' _ (by decide)) sF_rf sE_rf, hK, CXn_eq hN hs.2.2.1 (sI' _ (by decide)), CXh_eq hH hs.2.2.2.2.1 hfa (sI' _ (by decide)) sF_rf (sA' _ (by decide)) sE_rf, CXc_eq hC hs.1 (sA' _ (by decide)) (fun c hc => ?_), CXo_eq hO hs.1 (sI' _ (by decide)) (sA' _ (by decide))⟩
        · refine ⟨by rw [sI' [(9, 3)] (by decide) 9 g.s 3 hs.2.2.1 (by decide)]; exact htb.1, fun t' ht' => ?_⟩
          have ht' : inT a t' := ht'
          obtain ⟨y1, y2, y3, y4, y5, y6, y7, y8, y9, y10⟩ := htb.2 t' ht'
          rw [sI' [(10, 0)] (by decide) 10 _ 0 y2 (by decide), sI' [(10, 1)] (by decide) 10 _ 1 y2 (by decide), sI' [(0, 0)] (by decide) 0 _ 0 y6 (by decide)]
          refine ⟨y1, y2, y3, y4, y5, y6, y7, y8, ?_, ?_⟩
          · show _ = ((va_up a.ky (ix t) (a.ky (ix t) ++ [m]) t').length : Int)
            by_cases e : t' = ix t
            · subst e
              rw [va_up_self, up2_self, i5, List.length_append]; rfl
            · rw [va_up_ne _ _ e]
              refine (congrArg Int32.toInt (if_neg (fun z => dne t' ht' e z.1))).trans y9
          · show ∀ (i : Nat) (m' : Int32), (va_up a.ky (ix t) (a.ky (ix t) ++ [m]) t')[i]? = some m' → _
            intro i m' him
            by_cases e : t' = ix t
            · subst e
              rw [va_up_self] at him
              rw [up3_at, ix_of t9]
              by_cases hi : i < (a.ky (ix t)).length
              · rw [List.getElem?_append_left hi] at him
                rw [va_up_ne _ _ (by omega)]; exact t10 i m' him
              · rw [List.getElem?_append_right (by omega)] at him
                have hi2 : i = (a.ky (ix t)).length := by
                  have := (List.getElem?_eq_some_iff.mp him).1
                  simp at this; omega
                subst hi2
                simp at him
                subst him
                rw [va_up_self]
            · rw [va_up_ne _ _ e] at him
              rw [up3_ne (fun z => dne t' ht' e z.1)]
              exact y10 i m' him
        · have hne : g.lk c ≠ g.d (ix t) := Is_ne (hs.2.2.2.2.2.2.2.1 c hc).2.1 t2 (by decide)
          exact ⟨funext fun j => if_neg (fun z => hne z.1), rfl, funext fun j => up3_ne (fun z => hne z.1)⟩
      · simp only [i32, Int32.reduceToInt] at z
        rw [t9] at z
        refine qc_bit ?_
        refine qv_if (fun _ => ?_) (fun z => absurd rfl z)
        refine qc_throw (fun h => ?_)
        rw [n0 (fun y => z (by have := y.2.2.2.2; omega))]
        exact ⟨Or.inr (Or.inr (Or.inr ⟨rfl, trivial⟩)), h.2, CX_wC hz hx⟩
end VN1
