set_option linter.unusedVariables false
set_option linter.unusedSimpArgs false
/-! the class: back (what holds between two turns, beside the heap) -/
/-- no two things happen at one time -/
def UQ (a : AS) : Prop := (∀ t t' n n', n ∈ a.rw t → n' ∈ a.rw t' → 0 ≤ a.fd n → a.fd n = a.fd n' → n = n') ∧ ∀ t t' n n', n ∈ a.rw t → n' ∈ a.rw t' → a.fb n ≠ a.fd n'
def AVW (a : AS) : Prop := AVT a ∧ UQ a
theorem RM_avw {mo M : Nat} {a : AS} {y : HS} (h : RM mo M a y) (hM : M < 300000) : AVW a := by
  refine ⟨RM_avt h hM, ?_⟩
  obtain ⟨b, fi, ar, hb, rfl, rfl, hG, hA, ⟨sl, hx⟩, hV⟩ := h
  exact ⟨fun t t' n n' hn hn' h0 e => fd_one hG hx.1 hn hn' h0 e, fun t t' n n' hn hn' => fb_fd hG hx.1 hn hn'⟩
/-- columns that a table hasn't are 0 -/
def CZ (a : AS) : Prop := ∀ t n, n ∈ a.rw t → ∀ k : Nat, k < 4 → (a.co t).toInt ≤ (k : Int) → a.fc n k = 0
def BA (a : AS) (i : Nat) (c : AS) : Prop :=
  AV c ∧ c.1 = a.1 ∧ c.tm = a.tm + a.hs.length - i ∧ a.nn ≤ c.nn ∧ (c.mk ≠ [] → a.hs.length ≤ c.hs.length) ∧ c.mk = a.mk.dropLast ∧ CZ c ∧
  (∀ t n, n ∈ a.rw t → n ∈ c.rw t ∧ c.fb n = a.fb n ∧ (0 ≤ a.fd n → c.fd n = a.fd n)) ∧
  (∀ t n, n ∈ a.rw t → baseT a < a.fb n → ndB a i n → c.sn n ∈ c.rw t ∧ (a.fb n ≤ baseT a + i → c.fd (c.sn n) = -1) ∧ (c.sn n = n ∨ a.nn ≤ c.sn n)) ∧
  (∀ t t' n n', n ∈ a.rw t → n' ∈ a.rw t' → baseT a < a.fb n → baseT a < a.fb n' → ndB a i n → ndB a i n' → c.sn n = c.sn n' → n = n') ∧
  (allF c).length + (((a.hs.take i).drop (lastM a)).filter fun e => e.2).length ≤ 3000
theorem BA_came {a c : AS} (hU : UQ a) (hV0 : AV a) {i n : Nat} (hI : BA a (i + 1) c) (he : a.hs[i]? = some (n, false)) (hlm : lastM a ≤ i) : BA a i (goA c (c.sn n)) ∧ c.sn n ∈ c.rw (a.ft n) ∧ c.fd (c.sn n) = -1 := by
  obtain ⟨hV, e1, htm, hnn, hmk, hmd, hcz, hold, hst, hinj, hlen⟩ := hI
  obtain ⟨hm, hfb, -⟩ := hV0.2.2.1.2.2.2.2.1 i _ he
  have hfb : a.fb n = baseT a + i + 1 := hfb rfl
  have hm : n ∈ a.rw (a.ft n) := hm
  have h4 := hV0.1.2.2.2.1 _ n hm
  have hB : baseT a < a.fb n := by omega
  have hnd : ndB a (i + 1) n := h4.2.2.2.2.imp id (fun z => by omega)
  obtain ⟨s1, s4, s5⟩ := hst _ n hm hB hnd
  have s4 := s4 (by omega)
  obtain ⟨g0, g1, g2, g3, g4, g5, g6, g7, g8, g9, g10, g11, g12, g13⟩ := goA_f c (c.sn n)
  have up : ∀ t n', n' ∈ a.rw t → ndB a i n' → ndB a (i + 1) n' := fun t n' hn' z => z.imp id (fun z => by
    have := hU.2 _ _ n n' hm hn'
    omega)
  refine ⟨⟨av_go hV s1 s4, g0.trans e1, ?_, ?_, ?_, g11.trans hmd, ?_, ?_, ?_, ?_, ?_⟩, s1, s4⟩
  · rw [g9, htm]; omega
  · rw [g8]; exact hnn
  · rw [g11]; intro z; rw [g12, if_neg z, List.length_append]; have := hmk z; omega
  · intro t' n' hn' k hk hk2
    rw [g2] at hn'
    have e2 : (goA c (c.sn n)).co = c.co := congrArg A1.co g0
    rw [e2] at hk2
    rw [g3]; exact hcz t' n' hn' k hk hk2
  · intro t n' hn'
    obtain ⟨o1, o2, o4⟩ := hold t n' hn'
    rw [g2, g4, g5]
    refine ⟨o1, o2, fun z => ?_⟩
    have hne : n' ≠ c.sn n := fun y => by
      have := o4 z
      rw [y, s4] at this
      rw [y] at z; omega
    rw [va_up_ne _ _ hne]; exact o4 z
  · intro t n' hn' hb' hnd'
    obtain ⟨p1, p4, p5⟩ := hst t n' hn' hb' (up t n' hn' hnd')
    rw [g2, g7, g5]
    refine ⟨p1, fun z => ?_, p5⟩
    have hne : c.sn n' ≠ c.sn n := fun y => by
      have := hinj _ _ _ _ hn' hm hb' hB (up t n' hn' hnd') hnd y
      subst this; omega
    rw [va_up_ne _ _ hne]
    exact p4 (by omega)
  · intro t t' n1 n2 h1 h2 b1 b2 d1 d2
    rw [g7]
    exact hinj t t' n1 n2 h1 h2 b1 b2 (up t n1 h1 d1) (up t' n2 h2 d2)
  · rw [allF_eq g2]
    rw [take_drop1 he hlm, List.filter_append, List.length_append] at hlen
    omega
theorem BA_went {a c : AS} (hU : UQ a) (hV0 : AV a) {i n : Nat} (hI : BA a (i + 1) c) (he : a.hs[i]? = some (n, true)) (hlm : lastM a ≤ i) {P R : List Nat} (hr : c.rw (c.ft n) = P ++ n :: R) (hnP : n ∉ P) : BA a i (turnA c (n, true)) ∧ (allF c).length < 3000 ∧ c.ft n = a.ft n ∧ n ∈ c.rw (c.ft n) ∧ inT c (c.ft n) := by
  obtain ⟨hV, e1, htm, hnn, hmk, hmd, hcz, hold, hst, hinj, hlen⟩ := hI
  obtain ⟨hm, -, hfd⟩ := hV0.2.2.1.2.2.2.2.1 i _ he
  have hfd : a.fd n = baseT a + i + 1 := hfd rfl
  have hm : n ∈ a.rw (a.ft n) := hm
  have hi := (List.getElem?_eq_some_iff.mp he).1
  have hB0 : 0 ≤ baseT a := by have := hV0.2.2.1.2.2.2.1; unfold baseT; omega
  have h4 := hV0.1.2.2.2.1 _ n hm
  obtain ⟨o1, o2, o4⟩ := hold _ n hm
  have o4 := o4 (by omega)
  have hft : c.ft n = a.ft n := (hV.1.2.2.2.1 _ n o1).2.1
  have hcn : n ∈ c.rw (c.ft n) := by rw [hft]; exact o1
  have eL : c.rw (c.ft n) = (P ++ [n]) ++ R := by rw [hr]; simp
  have hti : inT c (c.ft n) := Classical.byContradiction (fun z => by rw [hV.1.1 _ z] at hcn; exact absurd hcn List.not_mem_nil)
  have hfin : (((a.hs.take (i + 1)).drop (lastM a)).filter fun e => e.2).length = (((a.hs.take i).drop (lastM a)).filter fun e => e.2).length + 1 := by
    rw [take_drop1 he hlm, List.filter_append, List.length_append]; rfl
  have hl3 : (allF c).length < 3000 := by omega
  have vv := av_come hV hti hl3 (cs := c.fc n) eL
  have hlt : ∀ t n', n' ∈ c.rw t → n' ≠ c.nn := fun t n' hn' z => by have := (hV.1.2.2.2.1 t n' hn').1; omega
  have hno : n ≠ c.nn := hlt _ n o1
  obtain ⟨g0, g1, g2, g3, g4, g5, g6, g7, g8, g9, g10, g11, g12, g13⟩ := comeA_f c (c.ft n) (c.fc n) (P ++ [n]) R
  obtain ⟨f0, f2, f4, f5, f7, f8, f9, f11, f12⟩ := turn_f hr hnP
  have memR : ∀ t' n', n' ∈ (comeA c (c.ft n) (c.fc n) (P ++ [n]) R).rw t' ↔ n' ∈ c.rw t' ∨ (n' = c.nn ∧ t' = c.ft n) := fun t' n' => by rw [g2]; exact mem_come eL
  have memT : ∀ t' n', n' ∈ (turnA c (n, true)).rw t' ↔ n' ∈ c.rw t' ∨ (n' = c.nn ∧ t' = c.ft n) := fun t' n' => by rw [f2]; exact mem_come eL
  have hn1 : n ∈ (comeA c (c.ft n) (c.fc n) (P ++ [n]) R).rw (c.ft n) := (memR _ _).mpr (Or.inl hcn)
  have hn2 : c.nn ∈ (comeA c (c.ft n) (c.fc n) (P ++ [n]) R).rw (c.ft n) := (memR _ _).mpr (Or.inr ⟨rfl, rfl⟩)
  have vs := av_sn vv hn1 hn2 (fun _ => by
    rw [g5, g4, va_up_ne _ _ hno, va_up_self, o4, hfd]
    have := h4.2.2.2.2
    have := htm
    omega)
  rw [← turn_went2 hr hnP] at vs
  have fcT : (turnA c (n, true)).fc = va_up c.fc c.nn (c.fc n) := by rw [turn_went2 hr hnP]; exact g3
  have hold' : ∀ t n', n' ∈ a.rw t → n' ≠ c.nn := fun t n' hn' => hlt t n' (hold t n' hn').1
  have up : ∀ t n', n' ∈ a.rw t → n' ≠ n → ndB a i n' → ndB a (i + 1) n' := fun t n' hn' hne z => z.imp id (fun z => by
    have : a.fd n' ≠ a.fd n := fun y => hne (hU.1 _ _ n' n hn' hm (by omega) y)
    omega)
  have snE : ∀ t n', n' ∈ a.rw t → (turnA c (n, true)).sn n' = if n' = n then c.nn else c.sn n' := fun t n' hn' => by
    rw [f7]
    by_cases e : n' = n
    · subst e; rw [va_up_self, if_pos rfl]
    · rw [va_up_ne _ _ e, if_neg e, va_up_ne _ _ (hold' t n' hn')]
  refine ⟨⟨vs, f0.trans e1, ?_, ?_, ?_, f11.trans hmd, ?_, ?_, ?_, ?_, ?_⟩, hl3, hft, hcn, hti⟩
  · rw [f9, htm]; omega
  · rw [f8]; omega
  · rw [f11]; intro z; rw [f12, if_neg z, List.length_append]; have := hmk z; omega
  · intro t' n' hn' k hk hk2
    have e2 : (turnA c (n, true)).co = c.co := congrArg A1.co f0
    rw [e2] at hk2
    rw [fcT]
    rcases (memT t' n').mp hn' with z | ⟨z, z'⟩
    · rw [va_up_ne _ _ (hlt t' n' z)]; exact hcz t' n' z k hk hk2
    · subst z; rw [va_up_self]
      subst z'
      exact hcz _ n hcn k hk hk2
  · intro t n' hn'
    obtain ⟨p1, p2, p4⟩ := hold t n' hn'
    have hne := hold' t n' hn'
    rw [f4, f5, va_up_ne _ _ hne, va_up_ne _ _ hne]
    exact ⟨(memT _ _).mpr (Or.inl p1), p2, p4⟩
  · intro t n' hn' hb' hnd'
    rw [snE t n' hn']
    by_cases e : n' = n
    · subst e
      have et : t = a.ft n' := hV0.1.2.1 _ _ _ hn' hm
      rw [if_pos rfl, f5, va_up_self]
      exact ⟨(memT _ _).mpr (Or.inr ⟨rfl, by rw [et, hft]⟩), fun _ => rfl, Or.inr hnn⟩
    · rw [if_neg e]
      obtain ⟨p1, p4, p5⟩ := hst t n' hn' hb' (up t n' hn' e hnd')
      have hne := hlt _ _ p1
      rw [f5, va_up_ne _ _ hne]
      exact ⟨(memT _ _).mpr (Or.inl p1), fun z => p4 (by omega), p5⟩
  · intro t t' n1 n2 m1 m2 b1 b2 d1 d2
    rw [snE t n1 m1, snE t' n2 m2]
    by_cases e : n1 = n
    · by_cases e' : n2 = n
      · intro _; rw [e, e']
      · rw [if_pos e, if_neg e']
        intro z
        exact absurd z.symm (hlt _ _ (hst t' n2 m2 b2 (up t' n2 m2 e' d2)).1)
    · by_cases e' : n2 = n
      · rw [if_neg e, if_pos e']
        intro z
        exact absurd z (hlt _ _ (hst t n1 m1 b1 (up t n1 m1 e d1)).1)
      · rw [if_neg e, if_neg e']
        exact hinj t t' n1 n2 m1 m2 b1 b2 (up t n1 m1 e d1) (up t' n2 m2 e' d2)
  · have : (allF (turnA c (n, true))).length = (allF c).length + 1 := by
      rw [← allF_come hV hti (cs := c.fc n) eL]
      exact congrArg List.length (allF_eq (by rw [f2, g2]))
    omega
theorem BA_0 {a : AS} (hV : AV a) (hz : CZ a) (hmk : a.mk ≠ []) (hlen : (allF a).length + goneN a ≤ 3000) : BA a a.hs.length (restH (dropA a)) := by
  have e0 : (restH (dropA a)).1 = a.1 ∧ (restH (dropA a)).rw = a.rw ∧ (restH (dropA a)).fb = a.fb ∧ (restH (dropA a)).fd = a.fd ∧ (restH (dropA a)).sn = a.sn ∧ (restH (dropA a)).nn = a.nn ∧ (restH (dropA a)).tm = a.tm ∧ ((restH (dropA a)).mk ≠ [] → a.hs.length ≤ (restH (dropA a)).hs.length) ∧ (restH (dropA a)).mk = a.mk.dropLast ∧ (restH (dropA a)).fc = a.fc := by
    unfold restH
    by_cases hm : (dropA a).mk = []
    · rw [if_pos hm]; exact ⟨rfl, rfl, rfl, rfl, rfl, rfl, rfl, fun z => absurd hm z, rfl, rfl⟩
    · rw [if_neg hm]; exact ⟨rfl, rfl, rfl, rfl, rfl, rfl, rfl, fun _ => Nat.le_refl _, rfl, rfl⟩
  obtain ⟨g0, g1, g2, g3, g4, g5, g6, g7, g8, g9⟩ := e0
  have hbt : baseT a + a.hs.length = a.tm := by unfold baseT; omega
  have self : ∀ t n, n ∈ a.rw t → baseT a < a.fb n → ndB a a.hs.length n → a.sn n = n ∧ a.fd n = -1 := fun t n hn hb' hnd => by
    have h4 := (hV.1.2.2.2.1 t n hn).2.2.2.2
    have hfd : a.fd n = -1 := by
      rcases hnd with z | z
      · exact z
      · omega
    refine ⟨((hV.2.2.1.2.2.2.2.2 t n hn hb').2).resolve_right (fun z => by omega), hfd⟩
  refine ⟨av_drop hV, g0, ?_, ?_, g7, g8, ?_, ?_, ?_, ?_, ?_⟩
  · rw [g6]; omega
  · rw [g5]; exact Nat.le_refl _
  · intro t n hn k hk hk2
    rw [g1] at hn
    have e2 : (restH (dropA a)).co = a.co := congrArg A1.co g0
    rw [e2] at hk2
    rw [g9]; exact hz t n hn k hk hk2
  · intro t n hn
    rw [g1, g2, g3]
    exact ⟨hn, rfl, fun _ => rfl⟩
  · intro t n hn hb' hnd
    obtain ⟨s1, s2⟩ := self t n hn hb' hnd
    rw [g4, g1, g3, s1]
    exact ⟨hn, fun _ => s2, Or.inl rfl⟩
  · intro t t' n n' hn hn' hb1 hb2 d1 d2
    rw [g4, (self t n hn hb1 d1).1, (self t' n' hn' hb2 d2).1]
    exact id
  · rw [allF_eq g1, List.take_length]; exact hlen
