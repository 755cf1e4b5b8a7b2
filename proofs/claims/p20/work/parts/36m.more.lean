set_option linter.unusedVariables false
set_option linter.unusedSimpArgs false
/-! THE REFERENCE BETWEEN TWO CALLS -/
def RInv (mo M : Nat) (vv : Nat → Int32) (y : HS) : Prop := ∃ (b : MT) (fi : Nat → Int32) (ar : Nat → Nat → Int32), MB b ∧ b.o = mo ∧ y = mS b fi ar ∧ G M fi ar ∧ ar 3 = vv
section C39
variable {mo M : Nat} {vv : Nat → Int32} {y : HS} {X : String → HS → Prop}
theorem RInv_o (h : RInv mo M vv y) : mo ∈ y.LP ∧ y.k mo = 12 := by
  obtain ⟨b, fi, ar, hb, rfl, rfl, hG, hv⟩ := h
  exact ⟨hb.1, hb.2.1⟩
theorem RInv_ok {b : MT} {ar : Nat → Nat → Int32} (hb : MB b) (hv : ar 3 = vv) : OKQ b M ar (fun _ u => RInv b.o (M + 1) vv u) := fun r fi' ar' hG h3 => ⟨b, fi', ar', hb, rfl, rfl, hG, by rw [h3]; exact hv⟩
theorem rv_feed (h : RInv mo M vv y) (hM : M < 300000) (a1 a2 a3 a4 a5 : Int32) : w_X12_feed (some mo) a1 a2 a3 a4 a5 y (fun _ u => RInv mo (M + 1) vv u) X := by
  obtain ⟨b, fi, ar, hb, rfl, rfl, hG, hv⟩ := h
  exact t_feed hb hG (RInv_ok hb hv) a1 a2 a3 a4 a5
theorem rv_end (h : RInv mo M vv y) (hM : M < 300000) (a1 : Int32) : w_X12_end (some mo) a1 y (fun _ u => RInv mo (M + 1) vv u) X := by
  obtain ⟨b, fi, ar, hb, rfl, rfl, hG, hv⟩ := h
  exact t_end hb hG (RInv_ok hb hv) a1
theorem rv_table (h : RInv mo M vv y) (hM : M < 300000) (a1 : Int32) : w_X12_table (some mo) a1 y (fun _ u => RInv mo (M + 1) vv u) X := by
  obtain ⟨b, fi, ar, hb, rfl, rfl, hG, hv⟩ := h
  exact t_table hb hG (RInv_ok hb hv) a1
theorem rv_index (h : RInv mo M vv y) (hM : M < 300000) (a1 a2 : Int32) : w_X12_index (some mo) a1 a2 y (fun _ u => RInv mo (M + 1) vv u) X := by
  obtain ⟨b, fi, ar, hb, rfl, rfl, hG, hv⟩ := h
  exact t_index hb hG (RInv_ok hb hv) a1 a2
theorem rv_key (h : RInv mo M vv y) (hM : M < 300000) (a1 a2 : Int32) : w_X12_key (some mo) a1 a2 y (fun _ u => RInv mo (M + 1) vv u) X := by
  obtain ⟨b, fi, ar, hb, rfl, rfl, hG, hv⟩ := h
  exact t_key hb hG (RInv_ok hb hv) a1 a2
theorem rv_add (h : RInv mo M vv y) (hM : M < 300000) (a1 a2 : Int32) : w_X12_add (some mo) a1 a2 y (fun _ u => RInv mo (M + 1) vv u) X := by
  obtain ⟨b, fi, ar, hb, rfl, rfl, hG, hv⟩ := h
  exact t_add hb hG hM (RInv_ok hb hv) a1 a2
theorem rv_remove (h : RInv mo M vv y) (hM : M < 300000) (a1 a2 a3 : Int32) : w_X12_remove (some mo) a1 a2 a3 y (fun _ u => RInv mo (M + 1) vv u) X := by
  obtain ⟨b, fi, ar, hb, rfl, rfl, hG, hv⟩ := h
  exact t_remove hb hG hM (RInv_ok hb hv) a1 a2 a3
theorem rv_find (h : RInv mo M vv y) (hM : M < 300000) (a1 a2 a3 : Int32) : w_X12_find (some mo) a1 a2 a3 y (fun _ u => RInv mo (M + 1) vv u) X := by
  obtain ⟨b, fi, ar, hb, rfl, rfl, hG, hv⟩ := h
  exact t_find hb hG (RInv_ok hb hv) a1 a2 a3
theorem rv_many (h : RInv mo M vv y) (hM : M < 300000) (a1 a2 a3 : Int32) : w_X12_many (some mo) a1 a2 a3 y (fun _ u => RInv mo (M + 1) vv u) X := by
  obtain ⟨b, fi, ar, hb, rfl, rfl, hG, hv⟩ := h
  exact t_many hb hG (RInv_ok hb hv) a1 a2 a3
theorem rv_open (h : RInv mo M vv y) (hM : M < 300000) (a1 a2 a3 : Int32) : w_X12_open (some mo) a1 a2 a3 y (fun _ u => RInv mo (M + 1) vv u) X := by
  obtain ⟨b, fi, ar, hb, rfl, rfl, hG, hv⟩ := h
  exact t_open hb hG (RInv_ok hb hv) a1 a2 a3
theorem rv_next (h : RInv mo M vv y) (hM : M < 300000) (a1 : Int32) : w_X12_next (some mo) a1 y (fun _ u => RInv mo (M + 1) vv u) X := by
  obtain ⟨b, fi, ar, hb, rfl, rfl, hG, hv⟩ := h
  exact t_next hb hG (RInv_ok hb hv) a1
theorem rv_close (h : RInv mo M vv y) (hM : M < 300000) (a1 : Int32) : w_X12_close (some mo) a1 y (fun _ u => RInv mo (M + 1) vv u) X := by
  obtain ⟨b, fi, ar, hb, rfl, rfl, hG, hv⟩ := h
  exact t_close hb hG (RInv_ok hb hv) a1
theorem rv_fact (h : RInv mo M vv y) (hM : M < 300000) (a1 a2 : Int32) : w_X12_fact (some mo) a1 a2 y (fun _ u => RInv mo (M + 1) vv u) X := by
  obtain ⟨b, fi, ar, hb, rfl, rfl, hG, hv⟩ := h
  exact t_fact hb hG (RInv_ok hb hv) a1 a2
theorem rv_mark (h : RInv mo M vv y) (hM : M < 300000) : w_X12_mark (some mo)  y (fun _ u => RInv mo (M + 1) vv u) X := by
  obtain ⟨b, fi, ar, hb, rfl, rfl, hG, hv⟩ := h
  exact t_mark hb hG (RInv_ok hb hv) 
theorem rv_back (h : RInv mo M vv y) (hM : M < 300000) (a1 : Int32) : w_X12_back (some mo) a1 y (fun _ u => RInv mo (M + 1) vv u) X := by
  obtain ⟨b, fi, ar, hb, rfl, rfl, hG, hv⟩ := h
  exact t_back hb hG hM (RInv_ok hb hv) a1
theorem rv_purge (h : RInv mo M vv y) (hM : M < 300000) (a1 : Int32) : w_X12_purge (some mo) a1 y (fun _ u => RInv mo (M + 1) vv u) X := by
  obtain ⟨b, fi, ar, hb, rfl, rfl, hG, hv⟩ := h
  exact t_purge hb hG (RInv_ok hb hv) a1
theorem rv_changes (h : RInv mo M vv y) (hM : M < 300000) (a1 a2 a3 : Int32) : w_X12_changes (some mo) a1 a2 a3 y (fun _ u => RInv mo (M + 1) vv u) X := by
  obtain ⟨b, fi, ar, hb, rfl, rfl, hG, hv⟩ := h
  exact t_changes hb hG (RInv_ok hb hv) a1 a2 a3
theorem rv_found (h : RInv mo M vv y) (hM : M < 300000) (a1 : Int32) : w_X12_found (some mo) a1 y (fun _ u => RInv mo (M + 1) vv u) X := by
  obtain ⟨b, fi, ar, hb, rfl, rfl, hG, hv⟩ := h
  exact t_found hb hG (RInv_ok hb hv) a1
theorem rv_question (h : RInv mo M vv y) (hM : M < 300000) (a1 : Int32) : w_X12_question (some mo) a1 y (fun _ u => RInv mo (M + 1) vv u) X := by
  obtain ⟨b, fi, ar, hb, rfl, rfl, hG, hv⟩ := h
  exact t_question hb hG (RInv_ok hb hv) a1
theorem rv_solution (h : RInv mo M vv y) (hM : M < 300000) (a1 a2 : Int32) : w_X12_solution (some mo) a1 a2 y (fun _ u => RInv mo (M + 1) vv u) X := by
  obtain ⟨b, fi, ar, hb, rfl, rfl, hG, hv⟩ := h
  exact t_solution hb hG (RInv_ok hb hv) a1 a2
theorem rv_count (h : RInv mo M vv y) (hM : M < 300000) (a1 : Int32) : w_X12_count (some mo) a1 y (fun _ u => RInv mo (M + 1) vv u) X := by
  obtain ⟨b, fi, ar, hb, rfl, rfl, hG, hv⟩ := h
  exact t_count hb hG (RInv_ok hb hv) a1
theorem rv_I {b : MT} {fi : Nat → Int32} {ar : Nat → Nat → Int32} : (mS b fi ar).I b.o 0 = fi 0 := if_pos rfl
theorem rv_value (h : RInv mo M vv y) (k v : Int32) : w_X12_value (some mo) k v y (fun r u => (wIn k 4 → r = vv (ix k) ∧ RInv mo (M + 1) (va_up vv (ix k) v) u ∧ u.I mo 0 = 0) ∧ (¬ wIn k 4 → RInv mo (M + 1) vv u ∧ u.I mo 0 = 1)) X := by
  obtain ⟨b, fi, ar, hb, rfl, rfl, hG, hv⟩ := h
  have hg1 := G_up hG
  refine t_value hb k v (fun hk => ⟨fun _ => ⟨by rw [hv], ⟨b, _, _, hb, rfl, rfl, ?_, ?_⟩, ?_⟩, fun hn => absurd hk hn⟩) (fun hk => ⟨fun h2 => absurd h2 hk, fun _ => ⟨⟨b, _, _, hb, rfl, rfl, ?_, hv⟩, ?_⟩⟩)
  · simp only [G, GB, up2_rs, up2_rn, va_up_self, va_up_ne, ne_eq, Nat.reduceEqDiff, not_false_eq_true] at hg1 ⊢
    exact hg1
  · rw [← hv]
    funext i
    unfold up2 va_up
    by_cases hi : i = ix k <;> simp [hi]
  · rw [rv_I, va_up_self]
  · simp only [G, GB, up2_rs, up2_rn, va_up_self, va_up_ne, ne_eq, Nat.reduceEqDiff, not_false_eq_true] at hg1 ⊢
    exact hg1
  · rw [rv_I, va_up_self]
theorem rv_thrown (h : RInv mo M vv y) : w_X12_thrown (some mo) y (fun r u => r = y.I mo 0 ∧ u = y) X := by
  obtain ⟨h1, h2⟩ := RInv_o h
  exact ⟨mo, rfl, h1, h2, rfl, rfl⟩
theorem rv_init {x : HS} (h1 : mo ∈ x.LP) (h2 : x.k mo = 12) (h3 : x.I mo = fun _ => 0) (hc : 38 ≤ x.c) (hz : 56386 ≤ x.z) : w_X12_init (some mo) x (fun u => RInv mo 0 (fun _ => 0) u) X :=
  t_init h1 h2 h3 hc hz (fun b hb ho _ _ => ⟨b, fi0, fun _ _ => 0, hb, ho, rfl, G_new, rfl⟩)
end C39
