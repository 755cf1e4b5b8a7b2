set_option linter.unusedVariables false
set_option linter.unusedSimpArgs false
/-! the reference: back (the first half: what a turn is) -/
theorem note_0 {a : AS} (h : a.mk = []) (n : Nat) (w : Bool) : noteA a n w = a := if_pos h
theorem turn_came (c : AS) (n : Nat) : turnA c (n, false) = goA c (c.sn n) := rfl
theorem turn_went (c : AS) (n : Nat) : turnA c (n, true) = (putA (newA c (c.ft n) (c.fc n)) (c.ft n) (insA n c.nn (c.rw (c.ft n)))).w_sn (va_up (newA c (c.ft n) (c.fc n)).sn n c.nn) := rfl
theorem turn_went2 {c : AS} {n : Nat} {P R : List Nat} (h : c.rw (c.ft n) = P ++ n :: R) (hn : n ∉ P) : turnA c (n, true) = (comeA c (c.ft n) (c.fc n) (P ++ [n]) R).w_sn (va_up (comeA c (c.ft n) (c.fc n) (P ++ [n]) R).sn n c.nn) := by
  have e : insA n c.nn (c.rw (c.ft n)) = (P ++ [n]) ++ c.nn :: R := by rw [h, insA_eq hn]; simp
  rw [turn_went, e]
  rfl
theorem turn_mk (c : AS) (e : Nat × Bool) : (turnA c e).mk = c.mk := by
  obtain ⟨n, w⟩ := e
  cases w with
  | false => rw [turn_came]; exact (goA_f c (c.sn n)).2.2.2.2.2.2.2.2.2.2.2.1
  | true => rw [turn_went]; exact (newA_f c (c.ft n) (c.fc n)).2.2.2.2.2.2.2.2.2.2.2.1
/-- where no mark is, what has been noted doesn't count -/
theorem turn_hs {c : AS} (h : c.mk = []) (e : Nat × Bool) : (turnA c e).w_hs [] = turnA (c.w_hs []) e := by
  have h' : (c.w_hs []).mk = [] := h
  obtain ⟨n, w⟩ := e
  cases w with
  | false =>
    rw [turn_came, turn_came]
    unfold goA
    rw [note_0 (by exact h), note_0 (by exact h')]
  | true =>
    rw [turn_went, turn_went]
    unfold newA
    rw [note_0 (by exact h), note_0 (by exact h')]
    rfl
theorem turns_hs : ∀ (L : List (Nat × Bool)) {c : AS}, c.mk = [] → (L.foldl turnA c).w_hs [] = L.foldl turnA (c.w_hs [])
  | [], c, h => rfl
  | e :: L, c, h => by
      rw [List.foldl_cons, List.foldl_cons, turns_hs L (by rw [turn_mk]; exact h), turn_hs h]
theorem turns_mk : ∀ (L : List (Nat × Bool)) (c : AS), (L.foldl turnA c).mk = c.mk
  | [], c => rfl
  | e :: L, c => by rw [List.foldl_cons, turns_mk L, turn_mk]
theorem rest_turns (a : AS) (L : List (Nat × Bool)) : restH (L.foldl turnA a) = L.foldl turnA (restH a) := by
  unfold restH
  rw [turns_mk]
  by_cases h : a.mk = []
  · rw [if_pos h, if_pos h]; exact turns_hs L h
  · rw [if_neg h, if_neg h]
theorem av_sn {c : AS} (h : AV c) {n g t : Nat} (hn : n ∈ c.rw t) (hg : g ∈ c.rw t) (hb : baseT c < c.fb n → 0 ≤ c.fd n ∧ c.fd n < c.fb g) : AV (c.w_sn (va_up c.sn n g)) := by
  obtain ⟨hr, hk, ⟨h1, h2, h3, h4, h5, h6⟩, hc, ho⟩ := h
  refine ⟨hr, hk, ⟨h1, h2, h3, h4, h5, fun t' n' hn' hb' => ?_⟩, hc, ho⟩
  have hn' : n' ∈ c.rw t' := hn'
  have hb' : baseT c < c.fb n' := hb'
  show va_up c.sn n g n' ∈ c.rw t' ∧ (va_up c.sn n g n' = n' ∨ (baseT c < c.fb n' ∧ 0 ≤ c.fd n' ∧ c.fd n' < c.fb (va_up c.sn n g n')))
  by_cases e : n' = n
  · subst e
    have : t' = t := hr.2.1 _ _ _ hn' hn
    subst this
    rw [va_up_self]
    exact ⟨hg, Or.inr ⟨hb', hb hb'⟩⟩
  · rw [va_up_ne _ _ e]; exact h6 t' n' hn' hb'
theorem rx_sn {a : AS} {sl : Nat → Nat} {fi : Nat → Int32} {ar : Nat → Nat → Int32} (hx : RXx a sl fi ar) {n g t : Nat} (hn : n ∈ a.rw t) {r : Int32} (hr : r.toInt = (sl g : Int)) : RXx (a.w_sn (va_up a.sn n g)) sl fi (up2 ar 19 (sl n) r) := by
  obtain ⟨hF, hK, hS, hH, hC, hO⟩ := hx
  have g' : ∀ j, j ≠ 19 → up2 ar 19 (sl n) r j = ar j := fun j hj => up2_nj hj
  refine ⟨⟨?_, ?_, ?_⟩, ?_, hS, ⟨hH.1, ?_, fun hm => ⟨(hH.2.2 hm).1, ?_, ?_⟩⟩, ?_, ?_⟩
  · rw [g' 18 (by decide), g' 7 (by decide), g' 17 (by decide), g' 8 (by decide)]; exact hF.1
  · show ∀ t n', n' ∈ a.rw t → RF1 a sl (up2 ar 19 (sl n) r) t n'
    unfold RF1
    rw [g' 11 (by decide), g' 12 (by decide), g' 13 (by decide), g' 14 (by decide), g' 15 (by decide), g' 16 (by decide)]
    exact hF.2.1
  · rw [g' 11 (by decide)]; exact hF.2.2
  · show RXk a (up2 ar 19 (sl n) r)
    unfold RXk
    rw [g' 6 (by decide), g' 9 (by decide)]; exact hK
  · rw [g' 26 (by decide)]; exact hH.2.1
  · rw [g' 24 (by decide)]; exact (hH.2.2 hm).2.1
  · intro t' n' hn' hb'
    have hn' : n' ∈ a.rw t' := hn'
    show (up2 ar 19 (sl n) r 19 (sl n')).toInt = (sl (va_up a.sn n g n') : Int)
    rw [up2_at]
    by_cases e : n' = n
    · subst e; rw [va_up_self, va_up_self]; exact hr
    · rw [va_up_ne _ _ e, va_up_ne _ _ (fun z => e (sl_inj hF hn' hn z))]
      exact (hH.2.2 hm).2.2 t' n' hn' hb'
  · show RXc a sl (up2 ar 19 (sl n) r)
    unfold RXc at hC ⊢
    rw [g' 28 (by decide), g' 29 (by decide), g' 30 (by decide), g' 31 (by decide), g' 32 (by decide), g' 33 (by decide), g' 34 (by decide), g' 35 (by decide)]; exact hC
  · show RXo a fi (up2 ar 19 (sl n) r)
    unfold RXo at hO ⊢
    rw [g' 36 (by decide)]; exact hO
