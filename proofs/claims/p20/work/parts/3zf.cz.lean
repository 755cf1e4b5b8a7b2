set_option linter.unusedVariables false
set_option linter.unusedSimpArgs false
/-! what lies beyond a table's columns is 0: kept by all calls -/
theorem cz_of {a a' : AS} (h : CZ a) (h1 : ∀ t n, n ∈ a'.rw t → n ∈ a.rw t) (h2 : a'.fc = a.fc) (h3 : a'.co = a.co) : CZ a' := fun t n hn k hk hc => by
  rw [h2]; rw [h3] at hc; exact h t n (h1 t n hn) k hk hc
theorem cz_1 {a : AS} {v : A1} (h : CZ a) (h3 : v.co = a.co) : CZ (a.w_1 v) := cz_of h (fun _ _ z => z) rfl h3
section CZS
variable {a : AS}
theorem cz_feed (hW : AVW a) (h : CZ a) (p1 p2 p3 p4 p5 : Int32) : CZ (nx_feed a p1 p2 p3 p4 p5) := cz_1 h (by unfold nx1_feed; split <;> rfl)
theorem cz_end (hW : AVW a) (h : CZ a) (p1 : Int32) : CZ (nx_end a p1) := cz_1 h (by unfold nx1_end; split <;> rfl)
theorem cz_value (hW : AVW a) (h : CZ a) (p1 p2 : Int32) : CZ (nx_value a p1 p2) := cz_1 h (by unfold nx1_value; split <;> rfl)
theorem cz_index (hW : AVW a) (h : CZ a) (p1 p2 : Int32) : CZ (nx_index a p1 p2) := cz_1 h (by unfold nx1_index; split <;> rfl)
theorem cz_question (hW : AVW a) (h : CZ a) (p1 : Int32) : CZ (nx_question a p1) := cz_1 h rfl
theorem cz_solution (hW : AVW a) (h : CZ a) (p1 p2 : Int32) : CZ (nx_solution a p1 p2) := h
theorem cz_count (hW : AVW a) (h : CZ a) (p1 : Int32) : CZ (nx_count a p1) := h
theorem cz_find (hW : AVW a) (h : CZ a) (p1 p2 p3 : Int32) : CZ (nx_find a p1 p2 p3) := h
theorem cz_many (hW : AVW a) (h : CZ a) (p1 p2 p3 : Int32) : CZ (nx_many a p1 p2 p3) := h
theorem cz_fact (hW : AVW a) (h : CZ a) (p1 p2 : Int32) : CZ (nx_fact a p1 p2) := h
theorem cz_found (hW : AVW a) (h : CZ a) (p1 : Int32) : CZ (nx_found a p1) := h
theorem cz_key (hW : AVW a) (h : CZ a) (p1 p2 : Int32) : CZ (nx_key a p1 p2) := by
  unfold nx_key; split <;> exact h
theorem cz_open (hW : AVW a) (h : CZ a) (p1 p2 p3 : Int32) : CZ (nx_open a p1 p2 p3) := by
  unfold nx_open; split <;> exact h
theorem cz_close (hW : AVW a) (h : CZ a) (p1 : Int32) : CZ (nx_close a p1) := by
  unfold nx_close; split <;> exact h
theorem cz_next (hW : AVW a) (h : CZ a) (p1 : Int32) : CZ (nx_next a p1) := by
  unfold nx_next
  split
  · unfold nextA
    split <;> exact h
  · exact h
theorem cz_mark (hW : AVW a) (h : CZ a) : CZ (nx_mark a) := by
  unfold nx_mark; split <;> exact h
theorem cz_changes (hW : AVW a) (h : CZ a) (p1 p2 p3 : Int32) : CZ (nx_changes a p1 p2 p3) := by
  unfold nx_changes; split <;> exact h
theorem cz_goL (h : CZ a) (L : List Nat) : CZ (goL a L) := by
  obtain ⟨h1, h2, h3, -⟩ := goL_f L a
  exact cz_of h (fun t n z => by rw [h2] at z; exact z) h3 (congrArg A1.co h1)
theorem cz_remove (hW : AVW a) (h : CZ a) (p1 p2 p3 : Int32) : CZ (nx_remove a p1 p2 p3) := by
  unfold nx_remove
  split
  · split <;> exact cz_goL h _
  · exact h
theorem cz_purge (hW : AVW a) (h : CZ a) (p1 : Int32) : CZ (nx_purge a p1) := by
  unfold nx_purge
  split
  · exact cz_of h (fun t n z => (List.mem_filter.mp z).1) rfl rfl
  · exact h
theorem cz_table (hW : AVW a) (h : CZ a) (p1 : Int32) : CZ (nx_table a p1) := by
  unfold nx_table nx1_table
  split
  · intro t n hn k hk hc
    have hn : n ∈ a.rw t := hn
    have ht : inT a t := Classical.byContradiction fun z => by
      rw [hW.1.1.1.1 t z] at hn; exact absurd hn List.not_mem_nil
    have h12 := hW.1.1.1.2.2.2.2.2.2.2
    have ne : t ≠ ix a.tn := fun z => by
      have : ((ix a.tn : Nat) : Int) = a.tn.toInt := ix_int h12.1
      have ht : (t : Int) < a.tn.toInt := ht
      omega
    have hc : (va_up a.co (ix a.tn) p1 t).toInt ≤ (k : Int) := hc
    rw [va_up_ne _ _ ne] at hc
    exact h t n hn k hk hc
  · exact h
/-- a fact comes that has nothing beyond the columns -/
theorem cz_new {t : Nat} {cs : Nat → Int32} {L : List Nat} (hlt : ∀ t n, n ∈ a.rw t → n < a.nn) (h : CZ a) (h0 : ∀ k : Nat, k < 4 → (a.co t).toInt ≤ (k : Int) → cs k = 0) (hL : ∀ n, n ∈ L → n = a.nn ∨ n ∈ a.rw t) : CZ (putA (newA a t cs) t L) := by
  obtain ⟨g0, g1, g2, g3, g4, g5, g6, g7, g8, g9, g10, g11, g12, g13⟩ := newA_f a t cs
  intro t' n hn k hk hc
  have hc1 : ((newA a t cs).co t').toInt ≤ (k : Int) := hc
  clear hc
  have hn : n ∈ va_up (newA a t cs).rw t L t' := hn
  show (newA a t cs).fc n k = 0
  have e1 : (newA a t cs).co = a.co := congrArg A1.co g0
  rw [e1] at hc1
  rw [g2] at hn
  rw [g3]
  have old : n ∈ a.rw t' → va_up a.fc a.nn cs n k = 0 := fun z => by
    rw [va_up_ne _ _ (Nat.ne_of_lt (hlt t' n z))]; exact h t' n z k hk hc1
  by_cases e : t' = t
  · subst e
    rw [va_up_self] at hn
    rcases hL n hn with z | z
    · rw [z, va_up_self]; exact h0 k hk hc1
    · exact old z
  · rw [va_up_ne _ _ e] at hn
    exact old hn
theorem cz_add (hW : AVW a) (h : CZ a) (p1 p2 : Int32) : CZ (nx_add a p1 p2) := by
  unfold nx_add
  split
  · unfold addA
    refine cz_new (fun t n hn => (hW.1.1.1.2.2.2.1 t n hn).1) h (fun k hk hc => if_neg (by omega)) (fun n hn => ?_)
    split at hn
    · rcases List.mem_cons.mp hn with z | z
      · exact Or.inl z
      · exact Or.inr z
    · rcases List.mem_append.mp hn with z | z
      · exact Or.inr z
      · exact Or.inl (List.mem_singleton.mp z)
  · exact h
theorem insA_old {p f q : Nat} : ∀ {M : List Nat}, q ∈ M → q ∈ insA p f M
  | [], h => h
  | x :: M, h => by
      unfold insA
      rcases List.mem_cons.mp h with z | z
      · split
        · rw [z]; exact List.mem_cons_self
        · rw [z]; exact List.mem_cons_self
      · split
        · exact List.mem_cons_of_mem _ (List.mem_cons_of_mem _ z)
        · exact List.mem_cons_of_mem _ (insA_old z)
theorem cz_turns : ∀ (H : List (Nat × Bool)) (a : AS), CZ a → (∀ t n, n ∈ a.rw t → n < a.nn) → (∀ e, e ∈ H → e.1 ∈ a.rw (a.ft e.1)) → CZ (H.foldl turnA a)
  | [], a, h, _, _ => h
  | e :: H, a, h, h2, h3 => by
      refine cz_turns H (turnA a e) ?_ ?_ ?_
      · unfold turnA
        split
        · exact cz_new (a := a) (t := a.ft e.1) (cs := a.fc e.1) h2 h (fun k hk hc => h _ _ (h3 e List.mem_cons_self) k hk hc) (fun n hn => insA_mem hn)
        · obtain ⟨g0, g1, g2, g3, g4, g5, g6, g7, g8, g9, g10, g11, g12, g13⟩ := goA_f a (a.sn e.1)
          exact cz_of h (fun t n z => by rw [g2] at z; exact z) g3 (congrArg A1.co g0)
      · intro t n hn
        unfold turnA at hn ⊢
        split at hn
        · rename_i he
          obtain ⟨g0, g1, g2, g3, g4, g5, g6, g7, g8, g9, g10, g11, g12, g13⟩ := newA_f a (a.ft e.1) (a.fc e.1)
          have hn : n ∈ va_up (newA a (a.ft e.1) (a.fc e.1)).rw (a.ft e.1) (insA e.1 a.nn (a.rw (a.ft e.1))) t := hn
          rw [if_pos he]
          show n < (newA a (a.ft e.1) (a.fc e.1)).nn
          rw [g8]
          rw [g2] at hn
          by_cases ht : t = a.ft e.1
          · rw [ht, va_up_self] at hn
            rcases insA_mem hn with z | z
            · omega
            · have := h2 _ _ z; omega
          · rw [va_up_ne _ _ ht] at hn
            have := h2 _ _ hn; omega
        · rename_i he
          obtain ⟨g0, g1, g2, g3, g4, g5, g6, g7, g8, g9, g10, g11, g12, g13⟩ := goA_f a (a.sn e.1)
          rw [if_neg he, g8]
          rw [g2] at hn
          exact h2 t n hn
      · intro e' he'
        have h4 := h3 e' (List.mem_cons_of_mem _ he')
        have h5 := h2 _ _ h4
        unfold turnA
        split
        · obtain ⟨g0, g1, g2, g3, g4, g5, g6, g7, g8, g9, g10, g11, g12, g13⟩ := newA_f a (a.ft e.1) (a.fc e.1)
          show e'.1 ∈ va_up (newA a (a.ft e.1) (a.fc e.1)).rw (a.ft e.1) (insA e.1 a.nn (a.rw (a.ft e.1))) ((newA a (a.ft e.1) (a.fc e.1)).ft e'.1)
          rw [g2, g6, va_up_ne _ _ (Nat.ne_of_lt h5)]
          by_cases ht : a.ft e'.1 = a.ft e.1
          · rw [ht, va_up_self]
            rw [ht] at h4
            exact insA_old h4
          · rw [va_up_ne _ _ ht]; exact h4
        · obtain ⟨g0, g1, g2, g3, g4, g5, g6, g7, g8, g9, g10, g11, g12, g13⟩ := goA_f a (a.sn e.1)
          rw [g2, g6]; exact h4
theorem cz_restH (h : CZ a) : CZ (restH a) := by
  unfold restH; split <;> exact h
theorem cz_back (hW : AVW a) (h : CZ a) (p1 : Int32) : CZ (nx_back a p1) := by
  unfold nx_back
  split
  · refine cz_restH ?_
    split
    · refine cz_turns _ (dropA a) h (fun t n hn => (hW.1.1.1.2.2.2.1 t n hn).1) (fun e he => ?_)
      have he := (List.drop_sublist _ _).subset (List.mem_reverse.mp he)
      obtain ⟨k, hk, rfl⟩ := List.mem_iff_getElem.mp he
      exact (hW.1.1.2.2.1.2.2.2.2.1 k _ (List.getElem?_eq_getElem hk)).1
    · exact h
  · exact h
end CZS
/-! all together: what the law goes by -/
def KZ (o N : Nat) (a : AS) (x : HS) : Prop := KC o N a x ∧ CZ a
theorem clo_T {WI WF : List (Nat × Nat)} {WJ WG : List Nat} : CloR WI WF WJ WG (fun _ => True) := ⟨fun _ _ _ _ _ _ _ _ _ => trivial, fun _ _ _ _ _ _ _ _ _ => trivial, fun _ _ _ _ _ _ _ => trivial, fun _ _ _ _ _ _ _ => trivial, fun _ _ _ _ => trivial, fun _ _ _ _ _ _ => trivial, fun _ _ _ _ _ _ _ => trivial, fun _ _ _ _ _ _ _ => trivial⟩
theorem KZ_o {o N : Nat} {a : AS} {x : HS} (h : KZ o N a x) : o ∈ x.LP ∧ x.k o = 11 := KC1_o h.1.1
section KZS
variable {o N : Nat} {a : AS} {x : HS}
theorem kz_feed (hk : KZ o (N + 1) a x) (hW : AVW a) (p1 p2 p3 p4 p5 : Int32) : w_X11_feed (some o) p1 p2 p3 p4 p5 x (fun r u => OK_feed a p1 p2 p3 p4 p5 0 r ∧ KZ o N (nx_feed a p1 p2 p3 p4 p5) u) (fun E u => (E = eIB ∧ OK_feed a p1 p2 p3 p4 p5 1 0) ∧ KZ o N (nx_feed a p1 p2 p3 p4 p5) u) :=
  fr_X11_feed (P := fun _ => True) clo_T (fun _ _ _ h => ⟨h.1, h.2, cz_feed hW hk.2 p1 p2 p3 p4 p5⟩) (fun _ _ _ h => ⟨h.1, h.2, cz_feed hW hk.2 p1 p2 p3 p4 p5⟩) trivial (kc_feed hk.1 hW.1 p1 p2 p3 p4 p5)
theorem kz_end (hk : KZ o (N + 1) a x) (hW : AVW a) (n : Int32) : w_X11_end (some o) n x (fun r u => OK_end a n 0 r ∧ KZ o N (nx_end a n) u) (fun E u => (E = eIA ∧ OK_end a n 1 0) ∧ KZ o N (nx_end a n) u) :=
  fr_X11_end (P := fun _ => True) clo_T (fun _ _ _ h => ⟨h.1, h.2, cz_end hW hk.2 n⟩) (fun _ _ _ h => ⟨h.1, h.2, cz_end hW hk.2 n⟩) trivial (kc_end hk.1 hW.1 n)
theorem kz_value (hk : KZ o (N + 1) a x) (hW : AVW a) (k v : Int32) : w_X11_value (some o) k v x (fun r u => OK_value a k v 0 r ∧ KZ o N (nx_value a k v) u) (fun E u => (E = eIA ∧ OK_value a k v 1 0) ∧ KZ o N (nx_value a k v) u) :=
  fr_X11_value (P := fun _ => True) clo_T (fun _ _ _ h => ⟨h.1, h.2, cz_value hW hk.2 k v⟩) (fun _ _ _ h => ⟨h.1, h.2, cz_value hW hk.2 k v⟩) trivial (kc_value hk.1 hW.1 k v)
theorem kz_table (hk : KZ o (N + 1) a x) (hW : AVW a) (n : Int32) : w_X11_table (some o) n x (fun r u => OK_table a n 0 r ∧ KZ o N (nx_table a n) u) (fun E u => (E = eIA ∧ OK_table a n 1 0 ∨ E = eIS ∧ OK_table a n 2 0) ∧ KZ o N (nx_table a n) u) :=
  fr_X11_table (P := fun _ => True) clo_T (fun _ _ _ h => ⟨h.1, h.2, cz_table hW hk.2 n⟩) (fun _ _ _ h => ⟨h.1, h.2, cz_table hW hk.2 n⟩) trivial (kc_table hk.1 hW.1 n)
theorem kz_index (hk : KZ o (N + 1) a x) (hW : AVW a) (t k : Int32) : w_X11_index (some o) t k x (fun r u => OK_index a t k 0 r ∧ KZ o N (nx_index a t k) u) (fun E u => (E = eIA ∧ OK_index a t k 2 0 ∨ E = eNE ∧ OK_index a t k 1 0) ∧ KZ o N (nx_index a t k) u) :=
  fr_X11_index (P := fun _ => True) clo_T (fun _ _ _ h => ⟨h.1, h.2, cz_index hW hk.2 t k⟩) (fun _ _ _ h => ⟨h.1, h.2, cz_index hW hk.2 t k⟩) trivial (kc_index hk.1 hW.1 t k)
theorem kz_key (hk : KZ o (N + 1) a x) (hW : AVW a) (t m : Int32) : w_X11_key (some o) t m x (fun r u => OK_key a t m 0 r ∧ KZ o N (nx_key a t m) u) (fun E u => (E = eIA ∧ OK_key a t m 2 0 ∨ E = eNE ∧ OK_key a t m 1 0 ∨ E = eIS ∧ OK_key a t m 3 0 ∨ E = eIB ∧ OK_key a t m 4 0) ∧ KZ o N (nx_key a t m) u) :=
  fr_X11_key (P := fun _ => True) clo_T (fun _ _ _ h => ⟨h.1, h.2, cz_key hW hk.2 t m⟩) (fun _ _ _ h => ⟨h.1, h.2, cz_key hW hk.2 t m⟩) trivial (kc_key hk.1 hW.1 t m)
theorem kz_add (hk : KZ o (N + 1) a x) (hW : AVW a) (t h' : Int32) : w_X11_add (some o) t h' x (fun r u => OK_add a t h' 0 r ∧ KZ o N (nx_add a t h') u) (fun E u => (E = eIA ∧ OK_add a t h' 1 0 ∨ E = eNE ∧ OK_add a t h' 2 0 ∨ E = eUO ∧ OK_add a t h' 3 0 ∨ E = eIS ∧ OK_add a t h' 4 0) ∧ KZ o N (nx_add a t h') u) :=
  fr_X11_add (P := fun _ => True) clo_T (fun _ _ _ h => ⟨h.1, h.2, cz_add hW hk.2 t h'⟩) (fun _ _ _ h => ⟨h.1, h.2, cz_add hW hk.2 t h'⟩) trivial (kc_add hk.1 hW.1 t h')
theorem kz_remove (hk : KZ o (N + 1) a x) (hW : AVW a) (t m l : Int32) : w_X11_remove (some o) t m l x (fun r u => OK_remove a t m l 0 r ∧ KZ o N (nx_remove a t m l) u) (fun E u => (E = eIA ∧ OK_remove a t m l 1 0 ∨ E = eNE ∧ OK_remove a t m l 2 0) ∧ KZ o N (nx_remove a t m l) u) :=
  fr_X11_remove (P := fun _ => True) clo_T (fun _ _ _ h => ⟨h.1, h.2, cz_remove hW hk.2 t m l⟩) (fun _ _ _ h => ⟨h.1, h.2, cz_remove hW hk.2 t m l⟩) trivial (kc_remove hk.1 hW.1 t m l)
theorem kz_find (hk : KZ o (N + 1) a x) (hW : AVW a) (t m q : Int32) : w_X11_find (some o) t m q x (fun r u => OK_find a t m q 0 r ∧ KZ o N (nx_find a t m q) u) (fun E u => (E = eIA ∧ OK_find a t m q 1 0 ∨ E = eNE ∧ OK_find a t m q 2 0) ∧ KZ o N (nx_find a t m q) u) :=
  fr_X11_find (P := fun _ => True) clo_T (fun _ _ _ h => ⟨h.1, h.2, cz_find hW hk.2 t m q⟩) (fun _ _ _ h => ⟨h.1, h.2, cz_find hW hk.2 t m q⟩) trivial (kc_find hk.1 hW.1 t m q)
theorem kz_many (hk : KZ o (N + 1) a x) (hW : AVW a) (t m q : Int32) : w_X11_many (some o) t m q x (fun r u => OK_many a t m q 0 r ∧ KZ o N (nx_many a t m q) u) (fun E u => (E = eIA ∧ OK_many a t m q 1 0 ∨ E = eNE ∧ OK_many a t m q 2 0) ∧ KZ o N (nx_many a t m q) u) :=
  fr_X11_many (P := fun _ => True) clo_T (fun _ _ _ h => ⟨h.1, h.2, cz_many hW hk.2 t m q⟩) (fun _ _ _ h => ⟨h.1, h.2, cz_many hW hk.2 t m q⟩) trivial (kc_many hk.1 hW.1 t m q)
theorem kz_open (hk : KZ o (N + 1) a x) (hW : AVW a) (t m q : Int32) : w_X11_open (some o) t m q x (fun r u => OK_open a t m q 0 r ∧ KZ o N (nx_open a t m q) u) (fun E u => (E = eIA ∧ OK_open a t m q 1 0 ∨ E = eNE ∧ OK_open a t m q 2 0 ∨ E = eIS ∧ OK_open a t m q 3 0) ∧ KZ o N (nx_open a t m q) u) :=
  fr_X11_open (P := fun _ => True) clo_T (fun _ _ _ h => ⟨h.1, h.2, cz_open hW hk.2 t m q⟩) (fun _ _ _ h => ⟨h.1, h.2, cz_open hW hk.2 t m q⟩) trivial (kc_open hk.1 hW.1 t m q)
theorem kz_next (hk : KZ o (N + 1) a x) (hW : AVW a) (c : Int32) : w_X11_next (some o) c x (fun r u => OK_next a c 0 r ∧ KZ o N (nx_next a c) u) (fun E u => (E = eIA ∧ OK_next a c 1 0 ∨ E = eNE ∧ OK_next a c 2 0) ∧ KZ o N (nx_next a c) u) :=
  fr_X11_next (P := fun _ => True) clo_T (fun _ _ _ h => ⟨h.1, h.2, cz_next hW hk.2 c⟩) (fun _ _ _ h => ⟨h.1, h.2, cz_next hW hk.2 c⟩) trivial (kc_next hk.1 hW.1 c)
theorem kz_close (hk : KZ o (N + 1) a x) (hW : AVW a) (c : Int32) : w_X11_close (some o) c x (fun r u => OK_close a c 0 r ∧ KZ o N (nx_close a c) u) (fun E u => (E = eIA ∧ OK_close a c 1 0 ∨ E = eNE ∧ OK_close a c 2 0) ∧ KZ o N (nx_close a c) u) :=
  fr_X11_close (P := fun _ => True) clo_T (fun _ _ _ h => ⟨h.1, h.2, cz_close hW hk.2 c⟩) (fun _ _ _ h => ⟨h.1, h.2, cz_close hW hk.2 c⟩) trivial (kc_close hk.1 hW.1 c)
theorem kz_fact (hk : KZ o (N + 1) a x) (hW : AVW a) (n w : Int32) : w_X11_fact (some o) n w x (fun r u => OK_fact a n w 0 r ∧ KZ o N (nx_fact a n w) u) (fun E u => (E = eIA ∧ OK_fact a n w 1 0 ∨ E = eNE ∧ OK_fact a n w 2 0) ∧ KZ o N (nx_fact a n w) u) :=
  fr_X11_fact (P := fun _ => True) clo_T (fun _ _ _ h => ⟨h.1, h.2, cz_fact hW hk.2 n w⟩) (fun _ _ _ h => ⟨h.1, h.2, cz_fact hW hk.2 n w⟩) trivial (kc_fact hk.1 hW.1 n w)
theorem kz_mark (hk : KZ o (N + 1) a x) (hW : AVW a) : w_X11_mark (some o) x (fun r u => OK_mark a 0 r ∧ KZ o N (nx_mark a) u) (fun E u => (E = eIS ∧ OK_mark a 1 0) ∧ KZ o N (nx_mark a) u) :=
  fr_X11_mark (P := fun _ => True) clo_T (fun _ _ _ h => ⟨h.1, h.2, cz_mark hW hk.2⟩) (fun _ _ _ h => ⟨h.1, h.2, cz_mark hW hk.2⟩) trivial (kc_mark hk.1 hW.1)
theorem kz_back (hk : KZ o (N + 1) a x) (hW : AVW a) (k : Int32) : w_X11_back (some o) k x (fun r u => OK_back a k 0 r ∧ KZ o N (nx_back a k) u) (fun E u => (E = eIS ∧ OK_back a k 1 0) ∧ KZ o N (nx_back a k) u) :=
  fr_X11_back (P := fun _ => True) clo_T (fun _ _ _ h => ⟨h.1, h.2, cz_back hW hk.2 k⟩) (fun _ _ _ h => ⟨h.1, h.2, cz_back hW hk.2 k⟩) trivial (kc_back hk.1 hW hk.2 k)
theorem kz_purge (hk : KZ o (N + 1) a x) (hW : AVW a) (q : Int32) : w_X11_purge (some o) q x (fun r u => OK_purge a q 0 r ∧ KZ o N (nx_purge a q) u) (fun E u => (E = eIA ∧ OK_purge a q 1 0 ∨ E = eIS ∧ OK_purge a q 2 0) ∧ KZ o N (nx_purge a q) u) :=
  fr_X11_purge (P := fun _ => True) clo_T (fun _ _ _ h => ⟨h.1, h.2, cz_purge hW hk.2 q⟩) (fun _ _ _ h => ⟨h.1, h.2, cz_purge hW hk.2 q⟩) trivial (kc_purge hk.1 hW.1 q)
theorem kz_changes (hk : KZ o (N + 1) a x) (hW : AVW a) (t p q : Int32) : w_X11_changes (some o) t p q x (fun r u => OK_changes a t p q 0 r ∧ KZ o N (nx_changes a t p q) u) (fun E u => (E = eIA ∧ OK_changes a t p q 1 0 ∨ E = eNE ∧ OK_changes a t p q 2 0) ∧ KZ o N (nx_changes a t p q) u) :=
  fr_X11_changes (P := fun _ => True) clo_T (fun _ _ _ h => ⟨h.1, h.2, cz_changes hW hk.2 t p q⟩) (fun _ _ _ h => ⟨h.1, h.2, cz_changes hW hk.2 t p q⟩) trivial (kc_changes hk.1 hW.1 t p q)
theorem kz_found (hk : KZ o (N + 1) a x) (hW : AVW a) (i : Int32) : w_X11_found (some o) i x (fun r u => OK_found a i 0 r ∧ KZ o N (nx_found a i) u) (fun E u => (E = eIB ∧ OK_found a i 1 0) ∧ KZ o N (nx_found a i) u) :=
  fr_X11_found (P := fun _ => True) clo_T (fun _ _ _ h => ⟨h.1, h.2, cz_found hW hk.2 i⟩) (fun _ _ _ h => ⟨h.1, h.2, cz_found hW hk.2 i⟩) trivial (kc_found hk.1 hW.1 i)
theorem kz_question (hk : KZ o (N + 1) a x) (hW : AVW a) (p : Int32) : w_X11_question (some o) p x (fun r u => OK_question a p 0 r ∧ KZ o N (nx_question a p) u) (fun E u => (E = eIA ∧ OK_question a p 1 0 ∨ E = eUO ∧ OK_question a p 2 0 ∨ E = eAE ∧ OK_question a p 3 0) ∧ KZ o N (nx_question a p) u) :=
  fr_X11_question (P := fun _ => True) clo_T (fun _ _ _ h => ⟨h.1, h.2, cz_question hW hk.2 p⟩) (fun _ _ _ h => ⟨h.1, h.2, cz_question hW hk.2 p⟩) trivial (kc_question hk.1 hW.1 p)
theorem kz_solution (hk : KZ o (N + 1) a x) (hW : AVW a) (p1 p2 : Int32) : w_X11_solution (some o) p1 p2 x (fun r u => OK_solution a p1 p2 0 r ∧ KZ o N (nx_solution a p1 p2) u) (fun E u => (E = eIA ∧ OK_solution a p1 p2 1 0 ∨ E = eIB ∧ OK_solution a p1 p2 2 0) ∧ KZ o N (nx_solution a p1 p2) u) :=
  fr_X11_solution (P := fun _ => True) clo_T (fun _ _ _ h => ⟨h.1, h.2, cz_solution hW hk.2 p1 p2⟩) (fun _ _ _ h => ⟨h.1, h.2, cz_solution hW hk.2 p1 p2⟩) trivial (kc_solution hk.1 hW.1 p1 p2)
theorem kz_count (hk : KZ o (N + 1) a x) (hW : AVW a) (p1 : Int32) : w_X11_count (some o) p1 x (fun r u => OK_count a p1 0 r ∧ KZ o N (nx_count a p1) u) (fun E u => (E = eIA ∧ OK_count a p1 1 0) ∧ KZ o N (nx_count a p1) u) :=
  fr_X11_count (P := fun _ => True) clo_T (fun _ _ _ h => ⟨h.1, h.2, cz_count hW hk.2 p1⟩) (fun _ _ _ h => ⟨h.1, h.2, cz_count hW hk.2 p1⟩) trivial (kc_count hk.1 hW.1 p1)
end KZS
theorem kz_init {x : HS} {o N : Nat} {X : String → HS → Prop} (hLP : x.LP = [o]) (hk : x.k o = 11) (hI : ∀ j, x.I o j = 0) (hc : 153096 + 16 * N + 94 ≤ x.c) (hz : 772800 + 100 * N + 20503 ≤ x.z) : w_X11_init (some o) x (fun u => KZ o N AS0 u) X :=
  fr_X11_init (P := fun _ => True) clo_T (fun _ _ h => ⟨h, fun t n hn => absurd hn List.not_mem_nil⟩) trivial (kc_init (X := X) hLP hk hI hc hz)
