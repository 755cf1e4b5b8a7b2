/-- what the law's helper says: r which throw, f the long -/
def HQ (ok : Int32 → Int32 → Prop) (r : Int32) (f : Nat → Int64) : Prop := (r = 0 ∧ ∃ v : Int32, f 0 = v.toInt64 ∧ ok 0 v) ∨ (r ≠ 0 ∧ ok r 0)
theorem HQ_det {cd an r k v : Int32} {f : Nat → Int64} (h : HQ (EX cd an) r f) (h2 : EX cd an k v) : k = r ∧ (r = 0 → f 0 = v.toInt64) := by
  obtain ⟨h3, h4⟩ := h2
  rcases h with ⟨rfl, w, h5, h6, h7⟩ | ⟨h5, h6, h7⟩
  · exact ⟨h3.trans h6.symm, fun _ => by rw [h5, h7 h6.symm, h4 h6.symm]⟩
  · exact ⟨h3.trans h6.symm, fun z => absurd z h5⟩
/-- a truth value -/
def bzz (v : Int32) : Int32 := if v = 0 then 0 else 1
theorem bzz_0 {v : Int32} (h : v = 0) : bzz v = 0 := if_pos h
theorem bzz_1 {v : Int32} (h : ¬ v = 0) : bzz v = 1 := if_neg h
