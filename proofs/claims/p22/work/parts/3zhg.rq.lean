set_option linter.unusedVariables false
set_option linter.unusedSimpArgs false
/-! the reference: text and solutions, and what most calls leave of them (laid by mkq.py) -/
def QMc (q : AT3) (fi : Nat → Int32) (ar : Nat → Nat → Int32) : Prop := ar 1 = q.tp ∧ (fi 55).toInt = (q.sc : Int) ∧ KnR (fi 56) q.sk ∧ ∀ i k, i < q.sc → i < 100 → k < 8 → q.sk k = true → ar 53 (8 * i + k) = q.sv i k
def QM (mo : Nat) (q : AT3) (y : HS) : Prop := ∃ (b : MT) (fi : Nat → Int32) (ar : Nat → Nat → Int32), MB b ∧ b.o = mo ∧ y = mS b fi ar ∧ QMc q fi ar
def RQ3 (mo M : Nat) (q : AT3) (y : HS) : Prop := RM mo M q.1 y ∧ QM mo q y
theorem QMc_fr {q : AT3} {a' : AS} {fi fi' : Nat → Int32} {ar ar' : Nat → Nat → Int32} {WF WA : List Nat} (h : QMc q fi ar) (hf : frM WF WA fi ar fi' ar') (h1 : 55 ∉ WF ∧ 56 ∉ WF) (h2 : 1 ∉ WA ∧ 53 ∉ WA) : QMc (a', q.2) fi' ar' := by
  unfold QMc
  rw [hf.1 55 h1.1, hf.1 56 h1.2, hf.2 1 h2.1, hf.2 53 h2.2]
  exact h
section RQS
variable {mo M : Nat} {qa : AT3} {y : HS} {X X' : String → HS → Prop}
theorem RQ_o (h : RQ3 mo M qa y) : mo ∈ y.LP ∧ y.k mo = 12 := RM_o h.1
theorem RQ_avw (h : RQ3 mo M qa y) (hM : M < 300000) : AVW qa.1 := RM_avw h.1 hM
theorem rq_thrown (h : RQ3 mo M qa y) : w_X12_thrown (some mo) y (fun r u => r = y.I mo 0 ∧ u = y) X := rc_thrown h.1

theorem rq_end (h : RQ3 mo M qa y) (hM : M < 300000) (p1 : Int32) : w_X12_end (some mo) p1 y (fun r u => OKq_end qa p1 (u.I mo 0) r ∧ RQ3 mo (M + 1) (nxq_end qa p1) u) X := by
  have h1 := rc_end (X := X) h.1 hM p1
  obtain ⟨b, fi, ar, hb, rfl, rfl, hq⟩ := h.2
  exact fr_X12_end (X := X) (X' := X) hb (P := frM [0, 2] [] fi ar) frM_clo (fun r fi' ar' hf hz => ⟨hz.1, hz.2, b, fi', ar', hb, rfl, rfl, QMc_fr hq hf (by decide) (by decide)⟩) frM_rf h1
theorem rq_value (h : RQ3 mo M qa y) (hM : M < 300000) (p1 p2 : Int32) : w_X12_value (some mo) p1 p2 y (fun r u => OKq_value qa p1 p2 (u.I mo 0) r ∧ RQ3 mo (M + 1) (nxq_value qa p1 p2) u) X := by
  have h1 := rc_value (X := X) h.1 hM p1 p2
  obtain ⟨b, fi, ar, hb, rfl, rfl, hq⟩ := h.2
  exact fr_X12_value (X := X) (X' := X) hb (P := frM [0] [3] fi ar) frM_clo (fun r fi' ar' hf hz => ⟨hz.1, hz.2, b, fi', ar', hb, rfl, rfl, QMc_fr hq hf (by decide) (by decide)⟩) frM_rf h1
theorem rq_table (h : RQ3 mo M qa y) (hM : M < 300000) (n : Int32) : w_X12_table (some mo) n y (fun r u => OKq_table qa n (u.I mo 0) r ∧ RQ3 mo (M + 1) (nxq_table qa n) u) X := by
  have h1 := rc_table (X := X) h.1 hM n
  obtain ⟨b, fi, ar, hb, rfl, rfl, hq⟩ := h.2
  exact fr_X12_table (X := X) (X' := X) hb (P := frM [0, 10] [4, 5, 6, 7, 8] fi ar) frM_clo (fun r fi' ar' hf hz => ⟨hz.1, hz.2, b, fi', ar', hb, rfl, rfl, QMc_fr hq hf (by decide) (by decide)⟩) frM_rf h1
theorem rq_index (h : RQ3 mo M qa y) (hM : M < 300000) (p1 p2 : Int32) : w_X12_index (some mo) p1 p2 y (fun r u => OKq_index qa p1 p2 (u.I mo 0) r ∧ RQ3 mo (M + 1) (nxq_index qa p1 p2) u) X := by
  have h1 := rc_index (X := X) h.1 hM p1 p2
  obtain ⟨b, fi, ar, hb, rfl, rfl, hq⟩ := h.2
  exact fr_X12_index (X := X) (X' := X) hb (P := frM [0] [5] fi ar) frM_clo (fun r fi' ar' hf hz => ⟨hz.1, hz.2, b, fi', ar', hb, rfl, rfl, QMc_fr hq hf (by decide) (by decide)⟩) frM_rf h1
theorem rq_key (h : RQ3 mo M qa y) (hM : M < 300000) (t m : Int32) : w_X12_key (some mo) t m y (fun r u => OKq_key qa t m (u.I mo 0) r ∧ RQ3 mo (M + 1) (nxq_key qa t m) u) X := by
  have h1 := rc_key (X := X) h.1 hM t m
  obtain ⟨b, fi, ar, hb, rfl, rfl, hq⟩ := h.2
  exact fr_X12_key (X := X) (X' := X) hb (P := frM [0] [6, 9] fi ar) frM_clo (fun r fi' ar' hf hz => ⟨hz.1, hz.2, b, fi', ar', hb, rfl, rfl, QMc_fr hq hf (by decide) (by decide)⟩) frM_rf h1
theorem rq_add (h : RQ3 mo M qa y) (hM : M < 300000) (t h' : Int32) : w_X12_add (some mo) t h' y (fun r u => OKq_add qa t h' (u.I mo 0) r ∧ RQ3 mo (M + 1) (nxq_add qa t h') u) X := by
  have h1 := rc_add (X := X) h.1 hM t h'
  obtain ⟨b, fi, ar, hb, rfl, rfl, hq⟩ := h.2
  exact fr_X12_add (X := X) (X' := X) hb (P := frM [0, 20, 21, 22, 25] [7, 8, 11, 12, 13, 14, 15, 16, 17, 18, 19, 24] fi ar) frM_clo (fun r fi' ar' hf hz => ⟨hz.1, hz.2, b, fi', ar', hb, rfl, rfl, QMc_fr hq hf (by decide) (by decide)⟩) frM_rf h1
theorem rq_remove (h : RQ3 mo M qa y) (hM : M < 300000) (t m l : Int32) : w_X12_remove (some mo) t m l y (fun r u => OKq_remove qa t m l (u.I mo 0) r ∧ RQ3 mo (M + 1) (nxq_remove qa t m l) u) X := by
  have h1 := rc_remove (X := X) h.1 hM t m l
  obtain ⟨b, fi, ar, hb, rfl, rfl, hq⟩ := h.2
  exact fr_X12_remove (X := X) (X' := X) hb (P := frM [0, 22, 25, 38] [16, 24] fi ar) frM_clo (fun r fi' ar' hf hz => ⟨hz.1, hz.2, b, fi', ar', hb, rfl, rfl, QMc_fr hq hf (by decide) (by decide)⟩) frM_rf h1
theorem rq_find (h : RQ3 mo M qa y) (hM : M < 300000) (t m q : Int32) : w_X12_find (some mo) t m q y (fun r u => OKq_find qa t m q (u.I mo 0) r ∧ RQ3 mo (M + 1) (nxq_find qa t m q) u) X := by
  have h1 := rc_find (X := X) h.1 hM t m q
  obtain ⟨b, fi, ar, hb, rfl, rfl, hq⟩ := h.2
  exact fr_X12_find (X := X) (X' := X) hb (P := frM [0, 38] [] fi ar) frM_clo (fun r fi' ar' hf hz => ⟨hz.1, hz.2, b, fi', ar', hb, rfl, rfl, QMc_fr hq hf (by decide) (by decide)⟩) frM_rf h1
theorem rq_many (h : RQ3 mo M qa y) (hM : M < 300000) (t m q : Int32) : w_X12_many (some mo) t m q y (fun r u => OKq_many qa t m q (u.I mo 0) r ∧ RQ3 mo (M + 1) (nxq_many qa t m q) u) X := by
  have h1 := rc_many (X := X) h.1 hM t m q
  obtain ⟨b, fi, ar, hb, rfl, rfl, hq⟩ := h.2
  exact fr_X12_many (X := X) (X' := X) hb (P := frM [0, 38] [] fi ar) frM_clo (fun r fi' ar' hf hz => ⟨hz.1, hz.2, b, fi', ar', hb, rfl, rfl, QMc_fr hq hf (by decide) (by decide)⟩) frM_rf h1
theorem rq_open (h : RQ3 mo M qa y) (hM : M < 300000) (t m q : Int32) : w_X12_open (some mo) t m q y (fun r u => OKq_open qa t m q (u.I mo 0) r ∧ RQ3 mo (M + 1) (nxq_open qa t m q) u) X := by
  have h1 := rc_open (X := X) h.1 hM t m q
  obtain ⟨b, fi, ar, hb, rfl, rfl, hq⟩ := h.2
  exact fr_X12_open (X := X) (X' := X) hb (P := frM [0] [28, 29, 30, 31, 32, 33, 34, 35] fi ar) frM_clo (fun r fi' ar' hf hz => ⟨hz.1, hz.2, b, fi', ar', hb, rfl, rfl, QMc_fr hq hf (by decide) (by decide)⟩) frM_rf h1
theorem rq_next (h : RQ3 mo M qa y) (hM : M < 300000) (c : Int32) : w_X12_next (some mo) c y (fun r u => OKq_next qa c (u.I mo 0) r ∧ RQ3 mo (M + 1) (nxq_next qa c) u) X := by
  have h1 := rc_next (X := X) h.1 hM c
  obtain ⟨b, fi, ar, hb, rfl, rfl, hq⟩ := h.2
  exact fr_X12_next (X := X) (X' := X) hb (P := frM [0, 38] [29, 33, 34] fi ar) frM_clo (fun r fi' ar' hf hz => ⟨hz.1, hz.2, b, fi', ar', hb, rfl, rfl, QMc_fr hq hf (by decide) (by decide)⟩) frM_rf h1
theorem rq_close (h : RQ3 mo M qa y) (hM : M < 300000) (c : Int32) : w_X12_close (some mo) c y (fun r u => OKq_close qa c (u.I mo 0) r ∧ RQ3 mo (M + 1) (nxq_close qa c) u) X := by
  have h1 := rc_close (X := X) h.1 hM c
  obtain ⟨b, fi, ar, hb, rfl, rfl, hq⟩ := h.2
  exact fr_X12_close (X := X) (X' := X) hb (P := frM [0] [28] fi ar) frM_clo (fun r fi' ar' hf hz => ⟨hz.1, hz.2, b, fi', ar', hb, rfl, rfl, QMc_fr hq hf (by decide) (by decide)⟩) frM_rf h1
theorem rq_fact (h : RQ3 mo M qa y) (hM : M < 300000) (n w : Int32) : w_X12_fact (some mo) n w y (fun r u => OKq_fact qa n w (u.I mo 0) r ∧ RQ3 mo (M + 1) (nxq_fact qa n w) u) X := by
  have h1 := rc_fact (X := X) h.1 hM n w
  obtain ⟨b, fi, ar, hb, rfl, rfl, hq⟩ := h.2
  exact fr_X12_fact (X := X) (X' := X) hb (P := frM [0] [] fi ar) frM_clo (fun r fi' ar' hf hz => ⟨hz.1, hz.2, b, fi', ar', hb, rfl, rfl, QMc_fr hq hf (by decide) (by decide)⟩) frM_rf h1
theorem rq_mark (h : RQ3 mo M qa y) (hM : M < 300000) : w_X12_mark (some mo) y (fun r u => OKq_mark qa (u.I mo 0) r ∧ RQ3 mo (M + 1) (nxq_mark qa) u) X := by
  have h1 := rc_mark (X := X) h.1 hM
  obtain ⟨b, fi, ar, hb, rfl, rfl, hq⟩ := h.2
  exact fr_X12_mark (X := X) (X' := X) hb (P := frM [0, 25, 27] [26] fi ar) frM_clo (fun r fi' ar' hf hz => ⟨hz.1, hz.2, b, fi', ar', hb, rfl, rfl, QMc_fr hq hf (by decide) (by decide)⟩) frM_rf h1
theorem rq_back (h : RQ3 mo M qa y) (hM : M < 300000) (k : Int32) : w_X12_back (some mo) k y (fun r u => OKq_back qa k (u.I mo 0) r ∧ RQ3 mo (M + 1) (nxq_back qa k) u) X := by
  have h1 := rc_back (X := X) h.1 hM k
  obtain ⟨b, fi, ar, hb, rfl, rfl, hq⟩ := h.2
  exact fr_X12_back (X := X) (X' := X) hb (P := frM [0, 20, 21, 22, 25, 27] [7, 8, 11, 12, 13, 14, 15, 16, 17, 18, 19, 24] fi ar) frM_clo (fun r fi' ar' hf hz => ⟨hz.1, hz.2, b, fi', ar', hb, rfl, rfl, QMc_fr hq hf (by decide) (by decide)⟩) frM_rf h1
theorem rq_purge (h : RQ3 mo M qa y) (hM : M < 300000) (q : Int32) : w_X12_purge (some mo) q y (fun r u => OKq_purge qa q (u.I mo 0) r ∧ RQ3 mo (M + 1) (nxq_purge qa q) u) X := by
  have h1 := rc_purge (X := X) h.1 hM q
  obtain ⟨b, fi, ar, hb, rfl, rfl, hq⟩ := h.2
  exact fr_X12_purge (X := X) (X' := X) hb (P := frM [0, 20, 23] [7, 8, 11, 17, 18] fi ar) frM_clo (fun r fi' ar' hf hz => ⟨hz.1, hz.2, b, fi', ar', hb, rfl, rfl, QMc_fr hq hf (by decide) (by decide)⟩) frM_rf h1
theorem rq_changes (h : RQ3 mo M qa y) (hM : M < 300000) (t p q : Int32) : w_X12_changes (some mo) t p q y (fun r u => OKq_changes qa t p q (u.I mo 0) r ∧ RQ3 mo (M + 1) (nxq_changes qa t p q) u) X := by
  have h1 := rc_changes (X := X) h.1 hM t p q
  obtain ⟨b, fi, ar, hb, rfl, rfl, hq⟩ := h.2
  exact fr_X12_changes (X := X) (X' := X) hb (P := frM [0, 37] [36] fi ar) frM_clo (fun r fi' ar' hf hz => ⟨hz.1, hz.2, b, fi', ar', hb, rfl, rfl, QMc_fr hq hf (by decide) (by decide)⟩) frM_rf h1
theorem rq_found (h : RQ3 mo M qa y) (hM : M < 300000) (i : Int32) : w_X12_found (some mo) i y (fun r u => OKq_found qa i (u.I mo 0) r ∧ RQ3 mo (M + 1) (nxq_found qa i) u) X := by
  have h1 := rc_found (X := X) h.1 hM i
  obtain ⟨b, fi, ar, hb, rfl, rfl, hq⟩ := h.2
  exact fr_X12_found (X := X) (X' := X) hb (P := frM [0] [] fi ar) frM_clo (fun r fi' ar' hf hz => ⟨hz.1, hz.2, b, fi', ar', hb, rfl, rfl, QMc_fr hq hf (by decide) (by decide)⟩) frM_rf h1
theorem rq_count (h : RQ3 mo M qa y) (hM : M < 300000) (p1 : Int32) : w_X12_count (some mo) p1 y (fun r u => OKq_count qa p1 (u.I mo 0) r ∧ RQ3 mo (M + 1) (nxq_count qa p1) u) X := by
  have h1 := rc_count (X := X) h.1 hM p1
  obtain ⟨b, fi, ar, hb, rfl, rfl, hq⟩ := h.2
  exact fr_X12_count (X := X) (X' := X) hb (P := frM [0] [] fi ar) frM_clo (fun r fi' ar' hf hz => ⟨hz.1, hz.2, b, fi', ar', hb, rfl, rfl, QMc_fr hq hf (by decide) (by decide)⟩) frM_rf h1
end RQS
