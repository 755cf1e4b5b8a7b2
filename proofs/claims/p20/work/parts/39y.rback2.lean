set_option linter.unusedVariables false
set_option linter.unusedSimpArgs false
/-! the reference: back -/
theorem turn_f {c : AS} {n : Nat} {P R : List Nat} (h : c.rw (c.ft n) = P ++ n :: R) (hn : n ∉ P) : (turnA c (n, true)).1 = c.1 ∧ (turnA c (n, true)).rw = va_up c.rw (c.ft n) ((P ++ [n]) ++ c.nn :: R) ∧ (turnA c (n, true)).fb = va_up c.fb c.nn (c.tm + 1) ∧ (turnA c (n, true)).fd = va_up c.fd c.nn (-1) ∧ (turnA c (n, true)).sn = va_up (va_up c.sn c.nn c.nn) n c.nn ∧ (turnA c (n, true)).nn = c.nn + 1 ∧ (turnA c (n, true)).tm = c.tm + 1 ∧ (turnA c (n, true)).mk = c.mk ∧ (turnA c (n, true)).hs = (if c.mk = [] then c.hs else c.hs ++ [(c.nn, false)]) := by
  rw [turn_went2 h hn]
  obtain ⟨g0, g1, g2, g3, g4, g5, g6, g7, g8, g9, g10, g11, g12, g13⟩ := comeA_f c (c.ft n) (c.fc n) (P ++ [n]) R
  exact ⟨g0, g2, g4, g5, by show va_up _ n c.nn = _; rw [g7], g8, g9, g11, g12⟩
theorem take_drop1 {α : Type} {L : List α} {i m : Nat} {e : α} (he : L[i]? = some e) (hm : m ≤ i) : (L.take (i + 1)).drop m = (L.take i).drop m ++ [e] := by
  have hi := (List.getElem?_eq_some_iff.mp he).1
  rw [List.take_add_one, he, List.drop_append_of_le_length (by rw [List.length_take]; omega)]
  rfl
/-- its end isn't turned yet, or it has none -/
def ndB (a : AS) (i n : Nat) : Prop := a.fd n = -1 ∨ baseT a + i < a.fd n
/-- all changes but the first i have been turned, from a on -/
def BKi (a : AS) (sl : Nat → Nat) (ar : Nat → Nat → Int32) (i : Nat) (c : AS) (sm : Nat → Nat) (fk : Nat → Int32) (ak : Nat → Nat → Int32) : Prop :=
  RXx c sm fk ak ∧ AV c ∧ c.1 = a.1 ∧ c.tm = a.tm + a.hs.length - i ∧ a.nn ≤ c.nn ∧ (c.mk ≠ [] → a.hs.length ≤ c.hs.length) ∧
  (∀ t n, n ∈ a.rw t → n ∈ c.rw t ∧ c.fb n = a.fb n ∧ sm n = sl n ∧ (0 ≤ a.fd n → c.fd n = a.fd n)) ∧
  (∀ k, k < a.hs.length → ak 24 k = ar 24 k) ∧
  (∀ t n, n ∈ a.rw t → baseT a < a.fb n → ndB a i n → c.sn n ∈ c.rw t ∧ (ak 19 (sl n)).toInt = (sm (c.sn n) : Int) ∧ (ak 19 (sm (c.sn n))).toInt = (sm (c.sn n) : Int) ∧ (a.fb n ≤ baseT a + i → c.fd (c.sn n) = -1) ∧ (c.sn n = n ∨ a.nn ≤ c.sn n)) ∧
  (∀ t t' n n', n ∈ a.rw t → n' ∈ a.rw t' → baseT a < a.fb n → baseT a < a.fb n' → ndB a i n → ndB a i n' → c.sn n = c.sn n' → n = n') ∧
  (allF c).length + (((a.hs.take i).drop (lastM a)).filter fun e => e.2).length ≤ 3000
section RY1
variable {b : MT} {fi fk : Nat → Int32} {ar ak : Nat → Nat → Int32} {mo M : Nat} {a c : AS} {y : HS} {sl sm : Nat → Nat} {X X' : String → HS → Prop} {Q Q' : HS → Prop} {QI QI' : Int32 → HS → Prop}
theorem fd_one (hG : G M fi ar) (hF : RXf a sl ar) {t t' n n' : Nat} (hn : n ∈ a.rw t) (hn' : n' ∈ a.rw t') (h0 : 0 ≤ a.fd n) (e : a.fd n = a.fd n') : n = n' := by
  have hD := hG.2.2.2.2.1
  have q := hF.2.1 t n hn
  have q' := hF.2.1 t' n' hn'
  refine sl_inj hF hn hn' (hD.2.2.1 _ _ ⟨q.1, q.2.1⟩ ⟨q'.1, q'.2.1⟩ ?_ ?_)
  · rw [q.2.2.2.2.2.2]; exact h0
  · rw [q.2.2.2.2.2.2, q'.2.2.2.2.2.2]; exact e
theorem fb_fd (hG : G M fi ar) (hF : RXf a sl ar) {t t' n n' : Nat} (hn : n ∈ a.rw t) (hn' : n' ∈ a.rw t') : a.fb n ≠ a.fd n' := by
  have hD := hG.2.2.2.2.1
  have q := hF.2.1 t n hn
  have q' := hF.2.1 t' n' hn'
  have := hD.2.2.2 _ _ ⟨q.1, q.2.1⟩ ⟨q'.1, q'.2.1⟩
  rw [q.2.2.2.2.2.1, q'.2.2.2.2.2.2] at this
  exact this
theorem BK_came (hG : G M fi ar) (hF0 : RXf a sl ar) (hV0 : AV a) {i n : Nat} (hI : BKi a sl ar (i + 1) c sm fk ak) (he : a.hs[i]? = some (n, false)) (hlm : lastM a ≤ i) {fk' : Nat → Int32} {ak' : Nat → Nat → Int32} (hf : frM [22, 25] [16, 24] fk ak fk' ak') (h24 : ∀ k : Nat, fk 27 = 0 ∨ (k : Int) ≠ (fk 25).toInt → ak' 24 k = ak 24 k) (hx : RXx (goA c (c.sn n)) sm fk' ak') : BKi a sl ar i (goA c (c.sn n)) sm fk' ak' := by
  obtain ⟨hx1, hV, e1, htm, hnn, hmk, hold, h24', hst, hinj, hlen⟩ := hI
  obtain ⟨hm, hfb, -⟩ := hV0.2.2.1.2.2.2.2.1 i _ he
  have hfb : a.fb n = baseT a + i + 1 := hfb rfl
  have hm : n ∈ a.rw (a.ft n) := hm
  have h4 := hV0.1.2.2.2.1 _ n hm
  have hB : baseT a < a.fb n := by omega
  have hnd : ndB a (i + 1) n := h4.2.2.2.2.imp id (fun z => by omega)
  obtain ⟨s1, s2, s3, s4, s5⟩ := hst _ n hm hB hnd
  have s4 := s4 (by omega)
  obtain ⟨g0, g1, g2, g3, g4, g5, g6, g7, g8, g9, g10, g11, g12, g13⟩ := goA_f c (c.sn n)
  have up : ∀ t n', n' ∈ a.rw t → ndB a i n' → ndB a (i + 1) n' := fun t n' hn' z => z.imp id (fun z => by
    have := fb_fd hG hF0 hm hn'
    omega)
  refine ⟨hx, av_go hV s1 s4, g0.trans e1, ?_, ?_, ?_, ?_, ?_, ?_, ?_, ?_⟩
  · rw [g9, htm]; omega
  · rw [g8]; exact hnn
  · rw [g11]; intro z; rw [g12, if_neg z, List.length_append]; have := hmk z; omega
  · intro t n' hn'
    obtain ⟨o1, o2, o3, o4⟩ := hold t n' hn'
    rw [g2, g4, g5]
    refine ⟨o1, o2, o3, fun z => ?_⟩
    have hne : n' ≠ c.sn n := fun y => by
      have := o4 z
      rw [y, s4] at this
      rw [y] at z; omega
    rw [va_up_ne _ _ hne]; exact o4 z
  · intro k hk
    refine (h24 k ?_).trans (h24' k hk)
    by_cases hm0 : c.mk = []
    · exact Or.inl ((mk_0 hx1.2.2.2.1).mpr hm0)
    · right
      have := hmk hm0
      rw [(hx1.2.2.2.1.2.2 hm0).1]; omega
  · intro t n' hn' hb' hnd'
    obtain ⟨p1, p2, p3, p4, p5⟩ := hst t n' hn' hb' (up t n' hn' hnd')
    rw [g2, g7, g5, hf.2 19 (by decide)]
    refine ⟨p1, p2, p3, fun z => ?_, p5⟩
    have hne : c.sn n' ≠ c.sn n := fun y => by
      have := hinj _ _ _ _ hn' hm hb' hB (up t n' hn' hnd') hnd y
      subst this; omega
    rw [va_up_ne _ _ hne]
    exact p4 (by omega)
  · intro t t' n1 n2 h1 h2 b1 b2 d1 d2
    rw [g7]
    exact hinj t t' n1 n2 h1 h2 b1 b2 (up t n1 h1 d1) (up t' n2 h2 d2)
  · rw [allF_eq g2]
    rw [take_drop1 he hlm, List.filter_append, List.length_append] at hlen
    omega
theorem BK_went (hG : G M fi ar) (hF0 : RXf a sl ar) (hV0 : AV a) {i n : Nat} (hI : BKi a sl ar (i + 1) c sm fk ak) (he : a.hs[i]? = some (n, true)) (hlm : lastM a ≤ i) (hT : c.tm < 2000000000) {P R : List Nat} (hr : c.rw (c.ft n) = P ++ n :: R) (hnP : n ∉ P) {r t' : Int32} {s : Nat} {fk1 : Nat → Int32} {ak1 ak2 ak3 : Nat → Nat → Int32} (hrs : r.toInt = (s : Int)) (hs : s < 3000) (hu : ak 11 s = 0) (htt : t'.toInt = (c.ft n : Int)) (h1 : FrS fk ak r t' s fk1 ak1)
    (h2 : (∀ j, j ≠ 13 → ak2 j = ak1 j) ∧ (∀ k, k < 4 → ak2 13 (4 * s + k) = c.fc n k) ∧ ∀ x, x < 4 * s ∨ 4 * s + 4 ≤ x → ak2 13 x = ak1 13 x) (h3 : LK ak2 ak3 (c.ft n) s ((P ++ [n]).map sm) (R.map sm)) : BKi a sl ar i (turnA c (n, true)) (va_up sm c.nn s) fk1 (up2 ak3 19 (sl n) r) := by
  obtain ⟨hx1, hV, e1, htm, hnn, hmk, hold, h24', hst, hinj, hlen⟩ := hI
  obtain ⟨hm, -, hfd⟩ := hV0.2.2.1.2.2.2.2.1 i _ he
  have hfd : a.fd n = baseT a + i + 1 := hfd rfl
  have hm : n ∈ a.rw (a.ft n) := hm
  have hi := (List.getElem?_eq_some_iff.mp he).1
  have hB0 : 0 ≤ baseT a := by have := hV0.2.2.1.2.2.2.1; unfold baseT; omega
  have h4 := hV0.1.2.2.2.1 _ n hm
  obtain ⟨o1, o2, o3, o4⟩ := hold _ n hm
  have o4 := o4 (by omega)
  have hft : c.ft n = a.ft n := (hV.1.2.2.2.1 _ n o1).2.1
  have hcn : n ∈ c.rw (c.ft n) := by rw [hft]; exact o1
  have eL : c.rw (c.ft n) = (P ++ [n]) ++ R := by rw [hr]; simp
  have hti : inT c (c.ft n) := Classical.byContradiction (fun z => by rw [hV.1.1 _ z] at hcn; exact absurd hcn List.not_mem_nil)
  have hfin : (((a.hs.take (i + 1)).drop (lastM a)).filter fun e => e.2).length = (((a.hs.take i).drop (lastM a)).filter fun e => e.2).length + 1 := by
    rw [take_drop1 he hlm, List.filter_append, List.length_append]; rfl
  have hl3 : (allF c).length < 3000 := by omega
  have xx := rx_come hx1 hV hti htt hrs hs hu eL hT h1 h2 h3
  have vv := av_come hV hti hl3 (cs := c.fc n) eL
  have hlt : ∀ t n', n' ∈ c.rw t → n' ≠ c.nn := fun t n' hn' z => by have := (hV.1.2.2.2.1 t n' hn').1; omega
  have hno : n ≠ c.nn := hlt _ n o1
  have esl : va_up sm c.nn s n = sl n := by rw [va_up_ne _ _ hno]; exact o3
  obtain ⟨g0, g1, g2, g3, g4, g5, g6, g7, g8, g9, g10, g11, g12, g13⟩ := comeA_f c (c.ft n) (c.fc n) (P ++ [n]) R
  obtain ⟨f0, f2, f4, f5, f7, f8, f9, f11, f12⟩ := turn_f hr hnP
  have memR : ∀ t' n', n' ∈ (comeA c (c.ft n) (c.fc n) (P ++ [n]) R).rw t' ↔ n' ∈ c.rw t' ∨ (n' = c.nn ∧ t' = c.ft n) := fun t' n' => by rw [g2]; exact mem_come eL
  have memT : ∀ t' n', n' ∈ (turnA c (n, true)).rw t' ↔ n' ∈ c.rw t' ∨ (n' = c.nn ∧ t' = c.ft n) := fun t' n' => by rw [f2]; exact mem_come eL
  have hn1 : n ∈ (comeA c (c.ft n) (c.fc n) (P ++ [n]) R).rw (c.ft n) := (memR _ _).mpr (Or.inl hcn)
  have hn2 : c.nn ∈ (comeA c (c.ft n) (c.fc n) (P ++ [n]) R).rw (c.ft n) := (memR _ _).mpr (Or.inr ⟨rfl, rfl⟩)
  have xs := rx_sn xx (g := c.nn) hn1 (r := r) (by rw [va_up_self]; exact hrs)
  rw [esl] at xs
  have vs := av_sn vv hn1 hn2 (fun _ => by
    rw [g5, g4, va_up_ne _ _ hno, va_up_self, o4, hfd]
    have := h4.2.2.2.2
    have := htm
    omega)
  rw [← turn_went2 hr hnP] at xs vs
  have a24 : (up2 ak3 19 (sl n) r) 24 = ak1 24 := by rw [up2_nj (by decide), h3.1 24 (by decide) (by decide) (by decide) (by decide), h2.1 24 (by decide)]
  have a19 : (up2 ak3 19 (sl n) r) 19 = va_up (va_up (ak 19) s r) (sl n) r := by
    rw [up2_at, h3.1 19 (by decide) (by decide) (by decide) (by decide), h2.1 19 (by decide), h1.2.2.2.2.2.2.2.2.2.1]
  have hsu : ∀ t n', n' ∈ c.rw t → sm n' ≠ s := fun t n' hn' z => (hx1.1.2.1 t n' hn').2.1 (by rw [z]; exact hu)
  have hsn : sl n ≠ s := fun z => hsu _ n o1 (by rw [o3]; exact z)
  have hold' : ∀ t n', n' ∈ a.rw t → n' ≠ c.nn := fun t n' hn' => hlt t n' (hold t n' hn').1
  have up : ∀ t n', n' ∈ a.rw t → n' ≠ n → ndB a i n' → ndB a (i + 1) n' := fun t n' hn' hne z => z.imp id (fun z => by
    have : a.fd n' ≠ a.fd n := fun y => hne (fd_one hG hF0 hn' hm (by omega) y)
    omega)
  have snE : ∀ t n', n' ∈ a.rw t → (turnA c (n, true)).sn n' = if n' = n then c.nn else c.sn n' := fun t n' hn' => by
    rw [f7]
    by_cases e : n' = n
    · subst e; rw [va_up_self, if_pos rfl]
    · rw [va_up_ne _ _ e, if_neg e, va_up_ne _ _ (hold' t n' hn')]
  refine ⟨xs, vs, f0.trans e1, ?_, ?_, ?_, ?_, ?_, ?_, ?_, ?_⟩
  · rw [f9, htm]; omega
  · rw [f8]; omega
  · rw [f11]; intro z; rw [f12, if_neg z, List.length_append]; have := hmk z; omega
  · intro t n' hn'
    obtain ⟨p1, p2, p3, p4⟩ := hold t n' hn'
    have hne := hold' t n' hn'
    rw [f4, f5, va_up_ne _ _ hne, va_up_ne _ _ hne, va_up_ne _ _ hne]
    exact ⟨(memT _ _).mpr (Or.inl p1), p2, p3, p4⟩
  · intro k hk
    rw [a24, ← h24' k hk]
    rcases h1.2.2.2.2.2.2.2.2.2.2 with ⟨-, -, z⟩ | ⟨z1, -, -, z⟩
    · rw [z]
    · rw [z]
      have hm0 : c.mk ≠ [] := fun y => z1 ((mk_0 hx1.2.2.2.1).mpr y)
      have q := hmk hm0
      have q2 : ix (fk 25) = c.hs.length := ix_of (hx1.2.2.2.1.2.2 hm0).1
      exact va_up_ne _ _ (by omega)
  · intro t n' hn' hb' hnd'
    rw [snE t n' hn', a19]
    by_cases e : n' = n
    · subst e
      have et : t = a.ft n' := hV0.1.2.1 _ _ _ hn' hm
      rw [if_pos rfl, va_up_self, va_up_self, va_up_ne _ _ (fun z => hsn z.symm), va_up_self, f5, va_up_self]
      exact ⟨(memT _ _).mpr (Or.inr ⟨rfl, by rw [et, hft]⟩), hrs, hrs, fun _ => rfl, Or.inr hnn⟩
    · rw [if_neg e]
      obtain ⟨p1, p2, p3, p4, p5⟩ := hst t n' hn' hb' (up t n' hn' e hnd')
      have hne := hlt _ _ p1
      have hmn : c.sn n' ≠ n := fun z => by
        rcases p5 with y | y
        · exact e (y.symm.trans z)
        · have := h4.1; omega
      have q1 : sl n' ≠ s := fun z => hsu t n' (hold t n' hn').1 (by rw [(hold t n' hn').2.2.1]; exact z)
      have q2 : sl n' ≠ sl n := fun z => e (sl_inj hF0 hn' hm z)
      have q3 : sm (c.sn n') ≠ s := hsu t _ p1
      have q4 : sm (c.sn n') ≠ sl n := fun z => hmn (sl_inj hx1.1 p1 o1 (by rw [o3]; exact z))
      rw [va_up_ne _ _ hne, va_up_ne _ _ q2, va_up_ne _ _ q1, va_up_ne _ _ q4, va_up_ne _ _ q3, f5, va_up_ne _ _ hne]
      exact ⟨(memT _ _).mpr (Or.inl p1), p2, p3, fun z => p4 (by omega), p5⟩
  · intro t t' n1 n2 m1 m2 b1 b2 d1 d2
    rw [snE t n1 m1, snE t' n2 m2]
    by_cases e : n1 = n
    · by_cases e' : n2 = n
      · intro _; rw [e, e']
      · rw [if_pos e, if_neg e']
        intro z
        exact absurd z.symm (hlt _ _ (hst t' n2 m2 b2 (up t' n2 m2 e' d2)).1)
    · by_cases e' : n2 = n
      · rw [if_neg e, if_pos e']
        intro z
        exact absurd z (hlt _ _ (hst t n1 m1 b1 (up t n1 m1 e d1)).1)
      · rw [if_neg e, if_neg e']
        exact hinj t t' n1 n2 m1 m2 b1 b2 (up t n1 m1 e d1) (up t' n2 m2 e' d2)
  · have : (allF (turnA c (n, true))).length = (allF c).length + 1 := by
      rw [← allF_come hV hti (cs := c.fc n) eL]
      exact congrArg List.length (allF_eq (by rw [f2, g2]))
    omega
end RY1
