set_option linter.unusedVariables false
set_option linter.unusedSimpArgs false
/-! the reference: a fact goes -/
def RXx (a : AS) (sl : Nat → Nat) (fi : Nat → Int32) (ar : Nat → Nat → Int32) : Prop := RXf a sl ar ∧ RXk a ar ∧ RXs a fi ∧ RXh a sl fi ar ∧ RXc a sl ar ∧ RXo a fi ar
section RC9
variable {b : MT} {fi : Nat → Int32} {ar : Nat → Nat → Int32} {mo M : Nat} {a : AS} {y : HS} {sl : Nat → Nat} {X X' : String → HS → Prop} {Q Q' : HS → Prop} {QI QI' : Int32 → HS → Prop}
theorem sl_inj (hF : RXf a sl ar) {t t' n n' : Nat} (h : n ∈ a.rw t) (h' : n' ∈ a.rw t') (e : sl n = sl n') : n = n' := by
  have h1 := (hF.2.1 t n h).2.2.2.2.1
  have h2 := (hF.2.1 t' n' h').2.2.2.2.1
  rw [e, h2] at h1; omega
theorem n_note (hb : MB b) {v : Int32} (h0 : fi 27 = 0 → Q (mS b fi ar) → Q' (mS b fi ar)) (h1 : fi 27 ≠ 0 → wIn (fi 25) 12000 → Q (mS b (va_up fi 25 (fi 25 + 1)) (up2 ar 24 (ix (fi 25)) v)) → Q' (mS b (va_up fi 25 (fi 25 + 1)) (up2 ar 24 (ix (fi 25)) v))) : w_X12_note (some b.o) v (mS b fi ar) Q X → w_X12_note (some b.o) v (mS b fi ar) Q' X' := by
  unfold w_X12_note
  refine nv_getI hb ?_
  refine qv_if (fun c => h0 c) (fun c => ?_)
  refine n_getF hb (by decide) ?_
  refine nv_getI hb ?_
  refine nv_astI hb (by decide) (by decide) (fun hw => ?_)
  refine nv_getI hb ?_
  refine nv_putI hb ?_
  exact h1 c hw
theorem mk_0 (hH : RXh a sl fi ar) : fi 27 = 0 ↔ a.mk = [] := by
  have h := hH.1
  constructor
  · intro z
    rw [z] at h
    have : (0 : Int32).toInt = 0 := by decide
    exact List.eq_nil_of_length_eq_zero (by omega)
  · intro z
    rw [z] at h
    exact i_ext (by rw [h]; decide)
theorem rx_go (hx : RXx a sl fi ar) (hV : AV a) {t n : Nat} (hn : n ∈ a.rw t) {fi' : Nat → Int32} {ar' : Nat → Nat → Int32} (hf : frM [22, 25] [16, 24] fi ar fi' ar') (h22 : (fi' 22).toInt = a.tm + 1) (h16 : ar' 16 = va_up (ar 16) (sl n) (fi' 22))
    (hnote : (a.mk = [] ∧ fi' 25 = fi 25 ∧ ar' 24 = ar 24) ∨ (a.mk ≠ [] ∧ (fi' 25).toInt = a.hs.length + 1 ∧ ∃ v : Int32, v.toInt = -1 - (sl n : Int) ∧ ar' 24 = va_up (ar 24) a.hs.length v)) : RXx (goA a n) sl fi' ar' := by
  obtain ⟨hF, hK, hS, hH, hC, hO⟩ := hx
  obtain ⟨g0, g1, g2, g3, g4, g5, g6, g7, g8, g9, g10, g11, g12, g13⟩ := goA_f a n
  have gb := base_go a n
  have e1 : (goA a n).tn = a.tn := congrArg A1.tn g0
  have e3 : (goA a n).fo = a.fo := congrArg Prod.snd g13
  have e4 : (goA a n).2.2.1 = a.2.2.1 := congrArg Prod.fst g13
  refine ⟨⟨fun t' ht' => ?_, fun t' n' hn' => ?_, fun s hs hu => ?_⟩, fun t' ht' => ?_, ?_, ⟨?_, ?_, fun hm => ⟨?_, ?_, ?_⟩⟩, fun c hc => ?_, ?_⟩
  · rw [g2, hf.2 18 (by decide), hf.2 7 (by decide), hf.2 17 (by decide), hf.2 8 (by decide)]
    exact hF.1 t' (by unfold inT at ht' ⊢; rw [e1] at ht'; exact ht')
  · rw [g2] at hn'
    obtain ⟨q1, q2, q3, q4, q5, q6, q7⟩ := hF.2.1 t' n' hn'
    unfold RF1
    rw [hf.2 11 (by decide), hf.2 12 (by decide), hf.2 13 (by decide), hf.2 14 (by decide), hf.2 15 (by decide), g3, g4, g5, h16]
    refine ⟨q1, q2, q3, q4, q5, q6, ?_⟩
    by_cases e : n' = n
    · subst e; rw [va_up_self, va_up_self]; exact h22
    · rw [va_up_ne _ _ e, va_up_ne _ _ (fun z => e (sl_inj hF hn' hn z))]; exact q7
  · rw [hf.2 11 (by decide)] at hu
    obtain ⟨t', n', h1, h2⟩ := hF.2.2 s hs hu
    exact ⟨t', n', by rw [g2]; exact h1, h2⟩
  · rw [hf.2 6 (by decide), hf.2 9 (by decide), g1]
    exact hK t' (by unfold inT at ht' ⊢; rw [e1] at ht'; exact ht')
  · unfold RXs
    rw [hf.1 20 (by decide), hf.1 21 (by decide), hf.1 23 (by decide), hf.1 39 (by decide), allF_eq g2, g8, g9, g10]
    exact ⟨hS.1, hS.2.1, h22, hS.2.2.2.1, hS.2.2.2.2⟩
  · rw [hf.1 27 (by decide), g11]; exact hH.1
  · rw [hf.2 26 (by decide), g11]; exact hH.2.1
  · rw [g11] at hm
    rcases hnote with ⟨z, -⟩ | ⟨-, z, -⟩
    · exact absurd z hm
    · rw [g12, if_neg hm, List.length_append, z]; rfl
  · rw [g11] at hm
    rcases hnote with ⟨z, -⟩ | ⟨-, -, v, z1, z2⟩
    · exact absurd z hm
    · rw [g12, if_neg hm, z2]
      intro i e he
      by_cases hk : i < a.hs.length
      · rw [List.getElem?_append_left hk] at he
        rw [va_up_ne _ _ (by omega)]
        exact (hH.2.2 hm).2.1 i e he
      · rw [List.getElem?_append_right (by omega)] at he
        have hk2 : i = a.hs.length := by
          have := (List.getElem?_eq_some_iff.mp he).1
          simp at this; omega
        subst hk2
        simp at he
        subst he
        rw [va_up_self]; exact z1
  · rw [g11] at hm
    rw [hf.2 19 (by decide), g2, g4, g7, gb, if_neg hm]
    exact (hH.2.2 hm).2.2
  · have eop : (goA a n).op = a.op := congrArg (fun z => z.1) e4
    have eov : (goA a n).ov = a.ov := congrArg (fun z => z.2.1) e4
    have ect : (goA a n).ct = a.ct := congrArg (fun z => z.2.2.1) e4
    have ecm : (goA a n).cm = a.cm := congrArg (fun z => z.2.2.2.1) e4
    have eci : (goA a n).ci = a.ci := congrArg (fun z => z.2.2.2.2.1) e4
    have ecl : (goA a n).cl = a.cl := congrArg (fun z => z.2.2.2.2.2.1) e4
    have ecd : (goA a n).cd = a.cd := congrArg (fun z => z.2.2.2.2.2.2.1) e4
    have ecv : (goA a n).cv = a.cv := congrArg (fun z => z.2.2.2.2.2.2.2) e4
    rw [eop, eov, ect, ecm, eci, ecl, ecd, ecv, hf.2 28 (by decide), hf.2 29 (by decide), hf.2 30 (by decide), hf.2 31 (by decide), hf.2 32 (by decide), hf.2 33 (by decide), hf.2 34 (by decide), hf.2 35 (by decide)]
    exact hC c hc
  · unfold RXo
    rw [hf.1 37 (by decide), hf.2 36 (by decide), e3]; exact hO
theorem n_go2 (hb : MB b) (hx : RXx a sl fi ar) (hV : AV a) {t n : Nat} (hn : n ∈ a.rw t) {v : Int32} (hv : v.toInt = (sl n : Int)) (hT : a.tm < 2000000000)
    (h : ∀ fi' ar', frM [22, 25] [16, 24] fi ar fi' ar' → (∀ k : Nat, fi 27 = 0 ∨ (k : Int) ≠ (fi 25).toInt → ar' 24 k = ar 24 k) → RXx (goA a n) sl fi' ar' → Q (mS b fi' ar') → Q' (mS b fi' ar')) : w_X12_go (some b.o) v (mS b fi ar) Q X → w_X12_go (some b.o) v (mS b fi ar) Q' X' := by
  have hS := hx.2.2.1
  have hH := hx.2.2.2.1
  have h0 : 0 ≤ a.tm := by have := hV.1.2.2.2.2.1; omega
  have hsl := (hx.1.2.1 t n hn).1
  unfold w_X12_go
  refine nv_getI hb ?_
  refine nv_putI hb ?_
  refine n_getF hb (by decide) ?_
  refine nv_getI hb ?_
  rw [va_up_self]
  refine nv_astI hb (by decide) (by decide) (fun _ => ?_)
  rw [m_recv hb, m_recv hb, ix_of hv]
  have e22 : (fi 22 + 1).toInt = a.tm + 1 := i_add hS.2.2.1 (by decide) (by omega)
  have f1 : frM [22, 25] [16, 24] fi ar (va_up fi 22 (fi 22 + 1)) (up2 ar 16 (sl n) (fi 22 + 1)) := frM_clo.2 16 (by decide) _ _ _ _ (frM_clo.1 22 (by decide) _ _ _ frM_rf)
  have e16 : up2 ar 16 (sl n) (fi 22 + 1) 16 = va_up (ar 16) (sl n) (fi 22 + 1) := by
    funext i; unfold up2 va_up; by_cases hi : i = sl n <;> simp [hi]
  refine n_note hb (fun c => ?_) (fun c hw => ?_)
  · have c' : fi 27 = 0 := by rw [← c]; exact (va_up_ne _ _ (by decide)).symm
    have hm := (mk_0 hH).mp c'
    refine h _ _ f1 (fun k _ => if_neg (fun y => absurd y.1 (by decide))) (rx_go hx hV hn f1 (by rw [va_up_self]; exact e22) (by rw [va_up_self]; exact e16) (Or.inl ⟨hm, va_up_ne _ _ (by decide), ?_⟩))
    funext i
    exact if_neg (fun y => absurd y.1 (by decide))
  · have c' : fi 27 ≠ 0 := fun z => c (by rw [← z]; exact va_up_ne _ _ (by decide))
    have hm : a.mk ≠ [] := fun z => c' ((mk_0 hH).mpr z)
    have e25 : va_up fi 22 (fi 22 + 1) 25 = fi 25 := va_up_ne _ _ (by decide)
    rw [e25] at hw ⊢
    have l25 := (hH.2.2 hm).1
    have hlen : a.hs.length < 12000 := by have := hw.2; omega
    have f2 : frM [22, 25] [16, 24] fi ar (va_up (va_up fi 22 (fi 22 + 1)) 25 (fi 25 + 1)) (up2 (up2 ar 16 (sl n) (fi 22 + 1)) 24 (ix (fi 25)) (-1 - v)) := frM_clo.2 24 (by decide) _ _ _ _ (frM_clo.1 25 (by decide) _ _ _ f1)
    refine h _ _ f2 (fun k hk => (if_neg (fun y => by
      have y2 : k = ix (fi 25) := y.2
      rw [ix_of l25] at y2
      rcases hk with hk | hk
      · exact c' hk
      · exact hk (by rw [l25, y2]))).trans (if_neg (fun y => absurd y.1 (by decide)))) (rx_go hx hV hn f2 (by rw [va_up_ne _ _ (by decide), va_up_self]; exact e22) ?_ (Or.inr ⟨hm, ?_, -1 - v, ?_, ?_⟩))
    · rw [va_up_ne _ _ (by decide), va_up_self, ← e16]
      funext i
      exact if_neg (fun y => absurd y.1 (by decide))
    · rw [va_up_self, i_add l25 (show (1 : Int32).toInt = 1 by decide) (by omega)]
    · exact i_sub (by decide) hv (by omega)
    · have e : ix (fi 25) = a.hs.length := ix_of l25
      rw [e]
      funext i; unfold up2 va_up
      by_cases hi : i = a.hs.length <;> simp [hi]
theorem n_go (hb : MB b) (hx : RXx a sl fi ar) (hV : AV a) {t n : Nat} (hn : n ∈ a.rw t) {v : Int32} (hv : v.toInt = (sl n : Int)) (hT : a.tm < 2000000000)
    (h : ∀ fi' ar', frM [22, 25] [16, 24] fi ar fi' ar' → RXx (goA a n) sl fi' ar' → Q (mS b fi' ar') → Q' (mS b fi' ar')) : w_X12_go (some b.o) v (mS b fi ar) Q X → w_X12_go (some b.o) v (mS b fi ar) Q' X' := n_go2 hb hx hV hn hv hT (fun fi' ar' f _ => h fi' ar' f)
end RC9
