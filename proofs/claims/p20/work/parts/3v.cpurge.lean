set_option linter.unusedVariables false
set_option linter.unusedSimpArgs false
/-! the class: purge -/
theorem flat_le {f g : Nat → List Nat} : ∀ (R : List Nat), (∀ t, (f t).length ≤ (g t).length) → (R.flatMap f).length ≤ (R.flatMap g).length
  | [], _ => Nat.le_refl _
  | x :: R, h => by
      rw [List.flatMap_cons, List.flatMap_cons, List.length_append, List.length_append]
      have := h x
      have := flat_le R h
      omega
theorem av_sub {a : AS} (hV : AV a) (hmk : a.mk = []) (hop : ∀ c, c < 10 → a.op c = false) (P : Nat → Nat → Bool) : AV (a.w_rw (fun t => (a.rw t).filter (P t))) := by
  obtain ⟨⟨r1, r2, r3, r4, r5, r6, r7, r8⟩, hk, ⟨h1, h2, h3, h4, h5, h6⟩, hc, ho⟩ := hV
  have hh : a.hs = [] := h3 hmk
  have mm : ∀ t n, n ∈ (a.rw t).filter (P t) → n ∈ a.rw t := fun t n hn => (List.mem_filter.mp hn).1
  refine ⟨⟨fun t ht => ?_, fun t t' n hn hn' => r2 t t' n (mm _ _ hn) (mm _ _ hn'), fun t => (r3 t).filter _, fun t n hn => r4 t n (mm _ _ hn), r5, r6, ?_, r8⟩, hk, ⟨h1, h2, h3, h4, ?_, ?_⟩, fun c hc' hop' => ?_, ho⟩
  · show (a.rw t).filter _ = []
    rw [r1 t ht]; rfl
  · show ((List.range 12).flatMap fun t => (a.rw t).filter (P t)).length ≤ 3000
    exact Nat.le_trans (flat_le _ (fun t => List.length_filter_le _ _)) r7
  · intro k e he
    have he : a.hs[k]? = some e := he
    rw [hh] at he; simp at he
  · intro t n hn hb'
    have hb' : a.tm - (a.hs.length : Int) < a.fb n := hb'
    have := (r4 t n (mm _ _ hn)).2.2.2.1
    rw [hh] at hb'; simp at hb'; omega
  · have hop' : a.op c = true := hop'
    rw [hop c hc'] at hop'
    exact absurd hop' (by decide)
section VV1
variable {b b' : CT} {I I' : Nat → Nat → Int32} {F F' : Nat → Nat → Option Nat} {A A' : Nat → Nat → Nat → Int32} {E E' : Nat → Nat → Nat → Option Nat} {o t n n' k f p w j ci q s h l N : Nat} {a c : AS} {g : CGs} {cs : Nat → Int32} {d r ct fa : Nat → Nat} {x y : HS} {X X' : String → HS → Prop} {Q Q' : HS → Prop} {QI QI' : Int32 → HS → Prop} {QF QF' : Option Nat → HS → Prop}
/-- a table forgets -/
theorem qc_dropDead (hV : AV a) (ht : inT a t) (hb : CB b) (hR : CXr a b d r ct fa I F E) (hDF : DrF a d r fa A b ct I F) {T : Int} {Tv : Int32} (hT : Tv.toInt = T) (hT0 : 0 ≤ T)
    (hQ : ∀ b' ct' I' F' E', Dr a t ((a.rw t).filter fun n => !(goneB a T n)) d r fa ct A b I F E b' ct' I' F' E' → Q (cS b' I' F' A E') → Q' (cS b' I' F' A E')) : w_X10_dropDeadBy (some (d t)) Tv (cS b I F A E) Q X → w_X10_dropDeadBy (some (d t)) Tv (cS b I F A E) Q' X' := by
  obtain ⟨y1, y2, y3, y4, y5, y6⟩ := hDF.2 t ht
  obtain ⟨h1, h2, h3, h4⟩ := id hR
  have hco := (hV.2.1.2 t ht).2.1
  have hrow := row_LnO hR ⟨y4, y5, y6⟩
  unfold w_X10_dropDeadBy
  refine qc_getF hb (by decide) (fun _ => ?_)
  rw [y3]
  refine qc_getF hb (by decide) (fun _ => ?_)
  refine qc_getF hb (by decide) (fun _ => ?_)
  rw [y3]
  refine qc_recv (fun _ => ?_)
  refine qc_empty (ct := ct) (t := t) (W := fun _ => False) (F := F) hb ⟨fun _ _ _ => rfl, fun _ _ _ z => absurd z (fun z => z)⟩ y4 y6 (fun F1 hE1 _ => ?_)
  refine qc_loop (fun v b' I' F' A' E' => b' = b ∧ I' = I ∧ A' = A ∧ E' = E ∧ ∃ m : Nat, v.toInt = (m : Int) ∧ (m : Int) ≤ (a.co t).toInt ∧ Emp b ct t (fun c => ix (I c 0) = 4 ∨ ix (I c 0) < m) F F') ⟨rfl, rfl, rfl, rfl, 0, by decide, by omega, Emp_mono hE1 (fun c hc hct z => ?_)⟩ (fun v b' I' F' A' E' again again' ⟨e1, e2, e3, e4, m, m1, m2, hE⟩ ha => ?_)
  · rcases z with z | z
    · exact Or.inr (by rw [(h2.1 c hc).2.2.1 z, hct])
    · omega
  subst e1; subst e2; subst e3; subst e4
  refine qc_getI (fun _ => ?_)
  rw [y2]
  refine qv_if (fun z => ?_) (fun z => ?_)
  · simp only [i32] at z
    have hall : ∀ c, Is b' 0 c → ct c = t → F' c 3 = none ∧ F' c 4 = none := fun c hc hct => by
      refine hE.2 c hc hct ?_
      obtain ⟨z1, z2, z3, z4⟩ := h2.1 c hc
      have hl5 := ix_lt z2
      by_cases h4' : ix (I' c 0) = 4
      · exact Or.inl h4'
      · right
        have hne := z4 (by omega)
        obtain ⟨xx, hxx⟩ := Option.ne_none_iff_exists'.mp hne
        have := (h3.1 _ _ xx z1 (by omega) hxx).2.2.1
        rw [hct] at this
        omega
    have hFr : Fr b' b' I' I' F F' E' E' := ⟨Xt_rf, rfl, fun _ _ h => Or.inl h, fun _ _ => rfl, fun c' x j hx hj => hE.1 x j (fun z => hj ⟨by rw [← hx.2]; exact z.1.2, z.2.2⟩), fun _ _ _ _ _ _ => rfl⟩
    refine qc_refill (b0 := b') (I0 := I') (F0 := F) (E0 := E') (ct0 := ct) hV ht hDF hT hT0 hrow ⟨hb, hFr, fun c hc => ?_, h2, ⟨fun t' k x ht' hk hx => ?_, h3.2⟩, fun _ _ => rfl, h4⟩ hQ
    · show ChL F' E' (ix (I' c 0)) c ((rowL (rowM a t []) (ct c) (ix (I' c 0)) (I' c 1)).map fa)
      by_cases e : ct c = t
      · obtain ⟨z1, z2⟩ := hall c hc e
        have : rowL (rowM a t []) (ct c) (ix (I' c 0)) (I' c 1) = [] := by rw [e, rowM_at]; split <;> rfl
        rw [this]
        exact ⟨z1, z2⟩
      · rw [rowM_oth e]
        obtain ⟨z1, z2⟩ := h1 c hc
        refine ⟨?_, ?_⟩
        · rw [hE.1 c 3 (fun z => e z.2.1)]; exact z1
        · rw [hE.1 c 4 (fun z => e z.2.1)]; exact z2
    · obtain ⟨z1, z2, z3, z4⟩ := h3.1 t' k x ht' hk hx
      refine ⟨z1, z2, z3, fun i hi => ?_⟩
      obtain ⟨C, hC, hm⟩ := z4 i hi
      exact ⟨C, LnO_congr (fun c _ => hE.1 c 2 (fun z => by omega)) hC, hm⟩
  · simp only [i32] at z
    have hm4 : m < 4 := by omega
    have n1 : (v + 1).toInt = ((m + 1 : Nat) : Int) := by rw [i_add m1 (show (1 : Int32).toInt = 1 by decide) (by omega)]; omega
    refine qc_getA hb (by decide) (fun _ => ?_)
    refine qc_aldG hb y1 (by decide) (by decide) (fun _ => ?_)
    rw [ix_of m1]
    dsimp only [wJoin]
    cases hx : E' (d t) 3 m with
    | none =>
      refine qv_if (fun _ => ?_) (fun z => absurd rfl z)
      refine ha _ _ _ _ _ _ ⟨rfl, rfl, rfl, rfl, m + 1, n1, by omega, Emp_mono hE (fun c hc hct z => z.imp id (fun z => ?_))⟩
      refine Nat.lt_of_le_of_ne (by omega) (fun e => ?_)
      have := (h2.1 c hc).2.2.2 (by omega)
      rw [hct, e] at this
      exact this hx
    | some xx =>
      refine qv_if (fun z => absurd z (by simp)) (fun _ => ?_)
      refine qc_getA hb (by decide) (fun _ => ?_)
      refine qc_aldG hb y1 (by decide) (by decide) (fun _ => ?_)
      rw [ix_of m1, hx]
      obtain ⟨x1, x2, x3, x4⟩ := h3.1 t m xx ht hm4 hx
      refine qc_recv (fun _ => ?_)
      refine qc_emptyIx hb hE x1 x4 (fun F2 hE2 => ?_)
      refine ha _ _ _ _ _ _ ⟨rfl, rfl, rfl, rfl, m + 1, n1, by omega, Emp_mono hE2 (fun c hc hct z => ?_)⟩
      rcases z with z | z
      · exact Or.inl (Or.inl z)
      · by_cases e : ix (I' c 0) = m
        · exact Or.inr e
        · exact Or.inl (Or.inr (by omega))
/-- the tables below i have forgotten -/
def pgA (a : AS) (T : Int) (i : Nat) : AS := a.w_rw (fun t => (a.rw t).filter fun n => !(goneB a T n) || decide (i ≤ t))
theorem pg_0 {T : Int} : pgA a T 0 = a := by
  have e : (fun t => (a.rw t).filter fun n => !(goneB a T n) || decide (0 ≤ t)) = a.rw := by
    funext t
    exact List.filter_eq_self.mpr (fun n _ => by simp)
  unfold pgA; rw [e]
theorem pg_end {T : Int} {i : Nat} (hV : AV a) (hi : a.tn.toInt = (i : Int)) : pgA a T i = a.w_rw (fun t => (a.rw t).filter fun n => !(goneB a T n)) := by
  have e : (fun t => (a.rw t).filter fun n => !(goneB a T n) || decide (i ≤ t)) = fun t => (a.rw t).filter fun n => !(goneB a T n) := by
    funext t
    by_cases ht : inT a t
    · unfold inT at ht
      exact List.filter_congr (fun n _ => by simp; omega)
    · rw [hV.1.1 t ht]; rfl
  unfold pgA; rw [e]
theorem pg_step {T : Int} {i : Nat} : rowM (pgA a T i) i (((pgA a T i).rw i).filter fun n => !(goneB a T n)) = pgA a T (i + 1) := by
  have e : va_up (pgA a T i).rw i (((pgA a T i).rw i).filter fun n => !(goneB a T n)) = (pgA a T (i + 1)).rw := by
    funext t
    by_cases et : t = i
    · subst et
      rw [va_up_self]
      show ((a.rw t).filter fun n => !(goneB a T n) || decide (t ≤ t)).filter _ = (a.rw t).filter fun n => !(goneB a T n) || decide (t + 1 ≤ t)
      rw [List.filter_filter]
      exact List.filter_congr (fun n _ => by simp; intro h; omega)
    · rw [va_up_ne _ _ et]
      show (a.rw t).filter (fun n => !(goneB a T n) || decide (i ≤ t)) = (a.rw t).filter fun n => !(goneB a T n) || decide (i + 1 ≤ t)
      refine List.filter_congr (fun n _ => ?_)
      have : decide (i ≤ t) = decide (i + 1 ≤ t) := decide_eq_decide.mpr (by omega)
      rw [this]
  unfold rowM
  rw [e]
  rfl
/-- those kept, as a list -/
theorem kept_list (hK : CXk a b s fa E) : ∃ KL : List Nat, KL.length = (allF a).length ∧ ∀ k n, KL[k]? = some n → (∃ t, n ∈ a.rw t) ∧ E s 1 k = some (fa n) := by
  have : ∀ m, m ≤ (allF a).length → ∃ KL : List Nat, KL.length = m ∧ ∀ k n, KL[k]? = some n → (∃ t, n ∈ a.rw t) ∧ E s 1 k = some (fa n) := by
    intro m
    induction m with
    | zero => exact fun _ => ⟨[], rfl, fun k n h => by simp at h⟩
    | succ m ih =>
      intro hm
      obtain ⟨KL, h1, h2⟩ := ih (by omega)
      obtain ⟨t, n, hn, e⟩ := hK.2.2.1 m (by omega)
      refine ⟨KL ++ [n], by rw [List.length_append, h1]; rfl, fun k n' hk => ?_⟩
      by_cases hi : k < KL.length
      · rw [List.getElem?_append_left hi] at hk; exact h2 k n' hk
      · rw [List.getElem?_append_right (by omega)] at hk
        have hi2 : k = KL.length := by
          have := (List.getElem?_eq_some_iff.mp hk).1
          simp at this; omega
        subst hi2
        simp at hk
        subst hk
        rw [h1]
        exact ⟨⟨t, hn⟩, e⟩
  exact this _ (Nat.le_refl _)
end VV1
