set_option linter.unusedVariables false
set_option linter.unusedSimpArgs false
/-! the reference: a slot is put into a row -/
def ahd (L1 : List Nat) (h : Int32) : Prop := (L1 = [] ∧ h.toInt = -1) ∨ ∃ (L : List Nat) (p : Nat), L1 = L ++ [p] ∧ h.toInt = (p : Int)
section RP1
variable {b : MT} {fi : Nat → Int32} {ar : Nat → Nat → Int32} {X X' : String → HS → Prop} {Q Q' : HS → Prop} {QI QI' : Int32 → HS → Prop}
/-- what the linking of g between L1 and L2 does -/
def LK (ar ar' : Nat → Nat → Int32) (t g : Nat) (L1 L2 : List Nat) : Prop := (∀ j, j ≠ 17 → j ≠ 18 → j ≠ 7 → j ≠ 8 → ar' j = ar j) ∧ LnK (ar' 18) (ar' 7 t) (L1 ++ g :: L2) ∧ LnK (ar' 17) (ar' 8 t) (L1 ++ g :: L2).reverse ∧ (∀ s, s ∉ L1 ++ g :: L2 → ar' 18 s = ar 18 s ∧ ar' 17 s = ar 17 s) ∧ ∀ t', t' ≠ t → ar' 7 t' = ar 7 t' ∧ ar' 8 t' = ar 8 t'
theorem up2_at {α : Type} {f : Nat → Nat → α} {j i : Nat} {v : α} : up2 f j i v j = va_up (f j) i v := by
  funext k; unfold up2 va_up; by_cases h : k = i <;> simp [h]
theorem up2_nj {α : Type} {f : Nat → Nat → α} {j i j' : Nat} {v : α} (h : j' ≠ j) : up2 f j i v j' = f j' := by
  funext k; exact if_neg (fun z => h z.1)
theorem n_link (hb : MB b) {g h : Int32} {t gN : Nat} {L1 L2 : List Nat} (hg : g.toInt = (gN : Int)) (hh : ahd L1 h) (ht : (ar 12 gN).toInt = (t : Int)) (h1 : LnK (ar 18) (ar 7 t) (L1 ++ L2)) (h2 : LnK (ar 17) (ar 8 t) (L1 ++ L2).reverse) (hn : (L1 ++ L2).Nodup) (hgn : gN ∉ L1 ++ L2)
    (hk : ∀ ar', LK ar ar' t gN L1 L2 → Q (mS b fi ar') → Q' (mS b fi ar')) : wRecv (mS b fi ar) 12 (some b.o) (w_X12_link (some b.o) g h (mS b fi ar) Q X) → wRecv (mS b fi ar) 12 (some b.o) (w_X12_link (some b.o) g h (mS b fi ar) Q' X') := by
  rw [m_recv hb, m_recv hb]
  unfold w_X12_link
  have hig : ix g = gN := ix_of hg
  refine n_getF hb (by decide) ?_
  refine nv_ald hb (by decide) (by decide) (fun _ => ?_)
  rw [hig]
  have hit : ix (ar 12 gN) = t := ix_of ht
  refine n_getF hb (by decide) ?_
  refine nv_astI hb (by decide) (by decide) (fun _ => ?_)
  rw [hig]
  refine n_getF hb (by decide) ?_
  dsimp only [wJoin]
  have rv : (L1 ++ gN :: L2).reverse = L2.reverse ++ gN :: L1.reverse := by simp
  have rv0 : (L1 ++ L2).reverse = L2.reverse ++ L1.reverse := by simp
  have hn2 : (L2.reverse ++ L1.reverse).Nodup := by rw [← rv0]; exact List.pairwise_reverse.mpr (List.Pairwise.imp (fun z => fun e => z e.symm) hn)
  have hgn2 : gN ∉ L2.reverse ++ L1.reverse := by rw [← rv0, List.mem_reverse]; exact hgn
  have f1 := LnK_put hg h1 hn hgn
  rw [rv0] at h2
  have f2 := LnK_put hg h2 hn2 hgn2
  -- the end: the link back
  have tail : ∀ (az : Nat → Nat → Int32), (∀ j, j ≠ 17 → j ≠ 18 → j ≠ 7 → az j = ar j) → az 17 = va_up (ar 17) gN h → LnK (az 18) (az 7 t) (L1 ++ gN :: L2) → (∀ s, s ∉ L1 ++ gN :: L2 → az 18 s = ar 18 s) → (∀ t', t' ≠ t → az 7 t' = ar 7 t') →
      (wGetF (mS b fi az) 12 18 (some b.o) fun v12 => wAldJ (mS b fi az) 20 v12 g fun v13 => wIf (0 ≤ v13) (wGetF (mS b fi az) 12 17 (some b.o) fun v16 => wGetF (mS b fi az) 12 18 (some b.o) fun v17 => wAldJ (mS b fi az) 20 v17 g fun v18 => wAstI (mS b fi az) v16 v18 g fun x19 => Q x19) (wGetF (mS b fi az) 12 8 (some b.o) fun v20 => wAstI (mS b fi az) v20 (ar 12 gN) g fun x21 => Q x21)) →
      (wGetF (mS b fi az) 12 18 (some b.o) fun v12 => wAldJ (mS b fi az) 20 v12 g fun v13 => wIf (0 ≤ v13) (wGetF (mS b fi az) 12 17 (some b.o) fun v16 => wGetF (mS b fi az) 12 18 (some b.o) fun v17 => wAldJ (mS b fi az) 20 v17 g fun v18 => wAstI (mS b fi az) v16 v18 g fun x19 => Q' x19) (wGetF (mS b fi az) 12 8 (some b.o) fun v20 => wAstI (mS b fi az) v20 (ar 12 gN) g fun x21 => Q' x21)) := fun az a0 a17 a18 a18s a7 => by
    have hb18 : LnK (az 18) (az 18 gN) L2 := by
      obtain ⟨k, -, z⟩ := LnK_app.mp a18
      exact (LnK_cons.mp z).2
    refine n_getF hb (by decide) ?_
    refine nv_ald hb (by decide) (by decide) (fun _ => ?_)
    rw [hig]
    cases L2 with
    | nil =>
      have hm := LnK_nil.mp hb18
      refine qv_if (fun c => ?_) (fun _ => ?_)
      · simp only [i32, Int32.reduceToInt] at c; omega
      · refine n_getF hb (by decide) ?_
        refine nv_astI hb (by decide) (by decide) (fun _ => ?_)
        rw [hit]
        refine hk _ ⟨fun j j1 j2 j3 j4 => by rw [up2_nj j4]; exact a0 j j1 j2 j3, ?_, ?_, fun s hs => ?_, fun t' ht' => ?_⟩
        · rw [up2_nj (by decide), up2_nj (by decide)]; exact a18
        · rw [up2_nj (by decide), up2_at, va_up_self, a17, rv]
          refine f2.1 rfl h ?_
          -- the last of L1 is what before says
          rcases hh with ⟨z1, z2⟩ | ⟨L, p, z1, z2⟩
          · rw [z1] at h2
            exact i_ext (by rw [z2]; exact (LnK_nil.mp h2).symm)
          · rw [z1] at h2
            rw [List.reverse_append] at h2
            exact i_ext (by rw [z2]; exact (LnK_cons.mp h2).1.symm)
        · rw [up2_nj (by decide), up2_nj (by decide), a17]
          exact ⟨a18s s hs, va_up_ne _ _ (fun z => hs (by rw [z]; exact List.mem_append_right _ List.mem_cons_self))⟩
        · rw [up2_nj (by decide), up2_at, va_up_ne _ _ ht', a0 8 (by decide) (by decide) (by decide)]
          exact ⟨a7 t' ht', rfl⟩
    | cons p2 L2' =>
      have hp2 := (LnK_cons.mp hb18).1
      refine qv_if (fun _ => ?_) (fun c => ?_)
      · refine n_getF hb (by decide) ?_
        refine n_getF hb (by decide) ?_
        refine nv_ald hb (by decide) (by decide) (fun _ => ?_)
        refine nv_astI hb (by decide) (by decide) (fun _ => ?_)
        rw [hig, ix_of hp2]
        have hpne : p2 ≠ gN := fun z => hgn (List.mem_append_right _ (by rw [z]; exact List.mem_cons_self))
        refine hk _ ⟨fun j j1 j2 j3 j4 => by rw [up2_nj j1]; exact a0 j j1 j2 j3, ?_, ?_, fun s hs => ?_, fun t' ht' => ?_⟩
        · rw [up2_nj (by decide), up2_nj (by decide)]; exact a18
        · rw [up2_at, up2_nj (by decide), a17, a0 8 (by decide) (by decide) (by decide), rv]
          refine f2.2 L2'.reverse p2 (by simp) h ?_
          -- who is ahead of p2
          have hpv := LnK_prev (bf := ar 17) (l := ar 8 t) (L1 := L1) (g := p2) (L2 := L2') (by rw [rv0]; exact h2)
          rcases hh with ⟨z1, z2⟩ | ⟨L, p, z1, z2⟩
          · exact i_ext (by rw [z2]; exact (hpv.1 z1).symm)
          · exact i_ext (by rw [z2]; exact (hpv.2 L p z1).symm)
        · rw [up2_nj (by decide), up2_at, a17]
          refine ⟨a18s s hs, ?_⟩
          rw [va_up_ne _ _ (fun z => hs (by rw [z]; exact List.mem_append_right _ (List.mem_cons_of_mem _ List.mem_cons_self))), va_up_ne _ _ (fun z => hs (by rw [z]; exact List.mem_append_right _ List.mem_cons_self))]
        · rw [up2_nj (by decide), up2_nj (by decide), a0 8 (by decide) (by decide) (by decide)]
          exact ⟨a7 t' ht', rfl⟩
      · simp only [i32, Int32.reduceToInt] at c; omega
  rcases hh with ⟨z1, z2⟩ | ⟨L, p, z1, z2⟩
  · -- at the beginning
    have c0 : ¬ (0 ≤ h) := by simp only [i32, Int32.reduceToInt]; omega
    refine qv_if (fun c => absurd c c0) (fun _ => ?_)
    refine n_getF hb (by decide) ?_
    refine nv_ald hb (by decide) (by decide) (fun _ => ?_)
    rw [hit, up2_nj (by decide)]
    refine nv_astI hb (by decide) (by decide) (fun _ => ?_)
    rw [hig]
    refine qv_if (fun c => absurd c c0) (fun _ => ?_)
    refine n_getF hb (by decide) ?_
    refine nv_astI hb (by decide) (by decide) (fun _ => ?_)
    rw [hit]
    refine tail _ (fun j j1 j2 j3 => by rw [up2_nj j3, up2_nj j2, up2_nj j1]) (by rw [up2_nj (by decide), up2_nj (by decide), up2_at]) ?_ (fun s hs => ?_) (fun t' ht' => ?_)
    · rw [up2_nj (by decide), up2_at, up2_nj (by decide), up2_at, va_up_self, z1]
      exact f1.1 z1 _ rfl
    · rw [up2_nj (by decide), up2_at, up2_nj (by decide)]
      exact va_up_ne _ _ (fun z => hs (by rw [z]; exact List.mem_append_right _ List.mem_cons_self))
    · rw [up2_at, va_up_ne _ _ ht', up2_nj (by decide), up2_nj (by decide)]
  · -- behind p
    have c0 : 0 ≤ h := by simp only [i32, Int32.reduceToInt]; omega
    have hip : ix h = p := ix_of z2
    have hpg : p ≠ gN := fun z => hgn (by rw [z1, ← z]; exact List.mem_append_left _ (List.mem_append_right _ (List.mem_singleton.mpr rfl)))
    refine qv_if (fun _ => ?_) (fun c => absurd c0 c)
    refine n_getF hb (by decide) ?_
    refine nv_ald hb (by decide) (by decide) (fun _ => ?_)
    rw [hip, up2_nj (by decide)]
    refine nv_astI hb (by decide) (by decide) (fun _ => ?_)
    rw [hig]
    refine qv_if (fun _ => ?_) (fun c => absurd c0 c)
    refine n_getF hb (by decide) ?_
    refine nv_astI hb (by decide) (by decide) (fun _ => ?_)
    rw [hip]
    refine tail _ (fun j j1 j2 j3 => by rw [up2_nj j2, up2_nj j2, up2_nj j1]) (by rw [up2_nj (by decide), up2_nj (by decide), up2_at]) ?_ (fun s hs => ?_) (fun t' ht' => ?_)
    · rw [up2_at, up2_at, up2_nj (by decide), up2_nj (by decide), up2_nj (by decide), up2_nj (by decide)]
      exact f1.2 L p z1 _ rfl
    · rw [up2_at, up2_at, up2_nj (by decide)]
      rw [va_up_ne _ _ (fun z => hs (by rw [z, z1]; exact List.mem_append_left _ (List.mem_append_right _ (List.mem_singleton.mpr rfl)))), va_up_ne _ _ (fun z => hs (by rw [z]; exact List.mem_append_right _ List.mem_cons_self))]
    · rw [up2_nj (by decide), up2_nj (by decide), up2_nj (by decide)]
end RP1
