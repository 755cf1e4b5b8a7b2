set_option linter.unusedVariables false
set_option linter.unusedSimpArgs false
/-! the class: a fact has come, and isn't placed yet -/
abbrev CGs.wfa (g : CGs) (v ct : Nat → Nat) : CGs := (g.s, g.h, g.l, g.lk, g.d, g.r, v, ct, g.sz)
/-- the changes, with the one that is just noted -/
def hs1 (a : AS) : List (Nat × Bool) := if a.mk = [] then a.hs else a.hs ++ [(a.nn, false)]
def MID (o : Nat) (a : AS) (g : CGs) (f t : Nat) (cs : Nat → Int32) (b : CT) (I : Nat → Nat → Int32) (F : Nat → Nat → Option Nat) (A : Nat → Nat → Nat → Int32) (E : Nat → Nat → Nat → Option Nat) : Prop :=
  CB b ∧ CXs b o g.s g.h g.l g.lk F E ∧ CXt a b g.s g.d g.r g.ct I F A E ∧ (∀ t n, n ∈ a.rw t → CF1 a b g.d g.fa I F A t n ∧ g.fa n ≠ f) ∧ CXr a b g.d g.r g.ct g.fa I F E ∧
  ((∀ i q, i < 3000 → E g.s 1 i = some q → Is b 1 q) ∧ (∀ i j q, i < 3000 → j < 3000 → E g.s 1 i = some q → E g.s 1 j = some q → i = j) ∧ (∀ i, i < (allF a).length + 1 → (∃ t n, n ∈ a.rw t ∧ E g.s 1 i = some (g.fa n)) ∨ E g.s 1 i = some f) ∧ (∀ t n, n ∈ a.rw t → ∃ i, i < (allF a).length ∧ E g.s 1 i = some (g.fa n)) ∧ ∃ i, i < (allF a).length + 1 ∧ E g.s 1 i = some f) ∧
  ((I g.s 4).toInt = ((allF a).length + 1 : Nat) ∧ (I g.s 5).toInt = ((a.nn + 1 : Nat) : Int) ∧ (I g.s 6).toInt = a.tm + 1 ∧ (I g.s 7).toInt = a.hz) ∧
  ((I g.h 4).toInt = (a.mk.length : Int) ∧ (∀ (i m : Nat), a.mk[i]? = some m → (A g.h 2 i).toInt = (m : Int)) ∧ (I g.h 3).toInt = (if a.mk = [] then (g.sz : Int) else ((hs1 a).length : Int)) ∧ (∀ (i : Nat) (e : Nat × Bool), (hs1 a)[i]? = some e → E g.h 0 i = some (va_up g.fa a.nn f e.1) ∧ (A g.h 1 i ≠ 0 ↔ e.2 = true)) ∧ (a.mk ≠ [] → ∀ t n, n ∈ a.rw t → baseT a < a.fb n → F (g.fa n) 3 = if a.sn n = n then none else some (g.fa (a.sn n)))) ∧
  CXc a o g.lk g.d g.fa I F A ∧ CXo a o I A ∧
  (Is b 1 f ∧ F f 2 = some (g.d t) ∧ F f 3 = none ∧ (∀ k, k < 4 → A f 0 k = cs k) ∧ (I f 4).toInt = (a.nn : Int) ∧ (I f 5).toInt = a.tm + 1 ∧ (I f 6).toInt = -1)
section VO1
variable {b b' : CT} {I I' : Nat → Nat → Int32} {F F' : Nat → Nat → Option Nat} {A A' : Nat → Nat → Nat → Int32} {E E' : Nat → Nat → Nat → Option Nat} {o t n n' k f p w j ci q s h l N : Nat} {a : AS} {g : CGs} {cs : Nat → Int32} {x y : HS} {X X' : String → HS → Prop} {Q Q' : HS → Prop} {QI QI' : Int32 → HS → Prop} {QF QF' : Option Nat → HS → Prop}
theorem rowL_sub {l : Nat} {v : Int32} (h : n ∈ rowL a t l v) : n ∈ a.rw t ∧ (l = 4 ∨ a.fc n l = v) := by
  unfold rowL at h
  split at h
  · exact ⟨h, Or.inl (by assumption)⟩
  · obtain ⟨h1, h2⟩ := List.mem_filter.mp h
    exact ⟨h1, Or.inr (eq_of_beq h2)⟩
theorem rowL_nd {l : Nat} {v : Int32} (hV : AV a) : (rowL a t l v).Nodup := by
  unfold rowL
  split
  · exact hV.1.2.2.1 t
  · exact (hV.1.2.2.1 t).filter _
/-- the chains' lists: no one twice, facts all, apart -/
theorem lists_ok (hV : AV a) {d r ct fa : Nat → Nat} (hF : ∀ t n, n ∈ a.rw t → CF1 a b d fa I F A t n) (h2 : CH2 b a.tn d r ct I E) : (∀ c, Is b 0 c → ((rowL a (ct c) (ix (I c 0)) (I c 1)).map fa).Nodup ∧ ∀ q, q ∈ (rowL a (ct c) (ix (I c 0)) (I c 1)).map fa → Is b 1 q) ∧ ∀ c c', Is b 0 c → Is b 0 c' → c ≠ c' → ix (I c 0) = ix (I c' 0) → ∀ q, q ∈ (rowL a (ct c) (ix (I c 0)) (I c 1)).map fa → q ∉ (rowL a (ct c') (ix (I c' 0)) (I c' 1)).map fa := by
  refine ⟨fun c hc => ⟨?_, fun q hq => ?_⟩, fun c c' hc hc' hne hl q hq hq' => ?_⟩
  · refine List.pairwise_map.mpr ((rowL_nd hV).imp_of_mem (fun h1 h2 hne he => hne ?_))
    exact fa_inj (hF _ _ (rowL_sub h1).1) (hF _ _ (rowL_sub h2).1) he
  · obtain ⟨n, hn, rfl⟩ := List.mem_map.mp hq
    exact (hF _ _ (rowL_sub hn).1).1
  · obtain ⟨n, hn, rfl⟩ := List.mem_map.mp hq
    obtain ⟨n', hn', e⟩ := List.mem_map.mp hq'
    obtain ⟨y1, y2⟩ := rowL_sub hn
    obtain ⟨y3, y4⟩ := rowL_sub hn'
    have en : n' = n := fa_inj (hF _ _ y3) (hF _ _ y1) e
    subst en
    have et : ct c = ct c' := hV.1.2.1 _ _ _ y1 y3
    rcases y2 with z | z
    · have e1 := (h2.1 c hc).2.2.1 z
      have e2 := (h2.1 c' hc').2.2.1 (by rw [← hl]; exact z)
      exact hne (by rw [e1, e2, et])
    · rcases y4 with z' | z'
      · have e1 := (h2.1 c hc).2.2.1 (by rw [hl]; exact z')
        have e2 := (h2.1 c' hc').2.2.1 z'
        exact hne (by rw [e1, e2, et])
      · exact hne (h2.2 c c' hc hc' et hl (by rw [← z, ← z', hl]))
theorem mid_PlP (hM : MID o a g f t cs b I F A E) (hV : AV a) (ht : inT a t) : PlP b a.tn a.co g.d g.r g.ct (fun c => (rowL a (g.ct c) (ix (I c 0)) (I c 1)).map g.fa) t f I F E := by
  obtain ⟨hb, hs, htb, hF, hR, hK, hN, hH, hC, hO, hf⟩ := hM
  obtain ⟨t1, t2, t3, t4, t5, t6, t7, t8, -⟩ := htb.2 t ht
  have hco := (hV.2.1.2 t ht).2.1
  obtain ⟨l1, l2⟩ := lists_ok hV (fun t n hn => (hF t n hn).1) hR.2.1
  refine ⟨hb, hR.1, hR.2.1, hR.2.2.1, fun t h => (htb.2 t h).2.1, ht, t4, ⟨by omega, hco.2⟩, ⟨t5, t6, t7, t8⟩, hf.1, fun c hc z => ?_, l1, l2⟩
  obtain ⟨n, hn, e⟩ := List.mem_map.mp z
  exact (hF _ n (rowL_sub hn).1).2 e
/-- the lists, when the fact has its place -/
theorem rowL_oth {t' l : Nat} {v : Int32} {L1 L2 : List Nat} (hV : AV a) (hr : a.rw t = L1 ++ L2) (h : ¬ (t' = t ∧ (l = 4 ∨ cs l = v))) : (rowL (comeA a t cs L1 L2) t' l v).map (va_up g.fa a.nn f) = (rowL a t' l v).map g.fa := by
  obtain ⟨g0, g1, g2, g3, -⟩ := comeA_f a t cs L1 L2
  have hnn : ∀ t' n, n ∈ a.rw t' → n ≠ a.nn := fun t' n hn z => by have := (hV.1.2.2.2.1 t' n hn).1; omega
  have e : rowL (comeA a t cs L1 L2) t' l v = rowL a t' l v := by
    unfold rowL
    rw [g2, g3]
    by_cases et : t' = t
    · subst et
      have h4 : ¬ l = 4 := fun z => h ⟨rfl, Or.inl z⟩
      have hv : ¬ cs l = v := fun z => h ⟨rfl, Or.inr z⟩
      rw [if_neg h4, if_neg h4, va_up_self, hr, List.filter_append, List.filter_append, List.filter_cons_of_neg (by rw [va_up_self]; simp [hv])]
      congr 1
      · refine List.filter_congr (fun n hn => ?_)
        rw [va_up_ne _ _ (hnn t' n (by rw [hr]; exact List.mem_append_left _ hn))]
      · refine List.filter_congr (fun n hn => ?_)
        rw [va_up_ne _ _ (hnn t' n (by rw [hr]; exact List.mem_append_right _ hn))]
    · rw [va_up_ne _ _ et]
      by_cases h4 : l = 4
      · rw [if_pos h4, if_pos h4]
      · rw [if_neg h4, if_neg h4]
        refine List.filter_congr (fun n hn => ?_)
        rw [va_up_ne _ _ (hnn t' n hn)]
  rw [e]
  exact List.map_congr_left (fun n hn => va_up_ne _ _ (hnn t' n (rowL_sub hn).1))
theorem rowL_hit {l : Nat} {v : Int32} {L1 L2 : List Nat} (hV : AV a) (hr : a.rw t = L1 ++ L2) (h : l = 4 ∨ l ≠ 4 ∧ cs l = v) : (rowL (comeA a t cs L1 L2) t l v).map (va_up g.fa a.nn f) = (if l = 4 then L1 else L1.filter fun n => a.fc n l == v).map g.fa ++ f :: (if l = 4 then L2 else L2.filter fun n => a.fc n l == v).map g.fa ∧ rowL a t l v = (if l = 4 then L1 else L1.filter fun n => a.fc n l == v) ++ (if l = 4 then L2 else L2.filter fun n => a.fc n l == v) := by
  obtain ⟨g0, g1, g2, g3, -⟩ := comeA_f a t cs L1 L2
  have hnn : ∀ n, n ∈ L1 ++ L2 → n ≠ a.nn := fun n hn z => by have := (hV.1.2.2.2.1 t n (by rw [hr]; exact hn)).1; omega
  have hmap : ∀ (M : List Nat), (∀ n, n ∈ M → n ∈ L1 ++ L2) → M.map (va_up g.fa a.nn f) = M.map g.fa := fun M hM => List.map_congr_left (fun n hn => va_up_ne _ _ (hnn n (hM n hn)))
  unfold rowL
  rw [g2, g3, va_up_self]
  by_cases h4 : l = 4
  · rw [if_pos h4, if_pos h4, if_pos h4, if_pos h4, List.map_append, List.map_cons, va_up_self, hmap L1 (fun n hn => List.mem_append_left _ hn), hmap L2 (fun n hn => List.mem_append_right _ hn)]
    exact ⟨rfl, hr⟩
  · have hv : cs l = v := (h.resolve_left h4).2
    rw [if_neg h4, if_neg h4, if_neg h4, if_neg h4, List.filter_append, List.filter_cons_of_pos (by rw [va_up_self]; simp [hv])]
    have f1 : L1.filter (fun n => va_up a.fc a.nn cs n l == v) = L1.filter (fun n => a.fc n l == v) := List.filter_congr (fun n hn => by rw [va_up_ne _ _ (hnn n (List.mem_append_left _ hn))])
    have f2 : L2.filter (fun n => va_up a.fc a.nn cs n l == v) = L2.filter (fun n => a.fc n l == v) := List.filter_congr (fun n hn => by rw [va_up_ne _ _ (hnn n (List.mem_append_right _ hn))])
    rw [f1, f2, List.map_append, List.map_cons, va_up_self, hmap _ (fun n hn => List.mem_append_left _ (List.mem_filter.mp hn).1), hmap _ (fun n hn => List.mem_append_right _ (List.mem_filter.mp hn).1)]
    exact ⟨rfl, by rw [hr, List.filter_append]⟩
/-- a fact has its place: the view is whole again -/
theorem come_fin (hM : MID o a g f t cs b I F A E) (hV : AV a) (ht : inT a t) (hT : a.tm < 2000000000) {L1 L2 : List Nat} (hr : a.rw t = L1 ++ L2) {pt : List Nat → List Nat} {ct' : Nat → Nat} {L' : Nat → List Nat} (hP : PlI f t pt A a.tn a.co g.d g.r b I F E g.ct (fun c => (rowL a (g.ct c) (ix (I c 0)) (I c 1)).map g.fa) 4 b' I' F' E' ct' L')
    (hpt : ∀ (l : Nat) (v : Int32), (l = 4 ∨ l ≠ 4 ∧ cs l = v) → pt ((rowL a t l v).map g.fa) = (rowL (comeA a t cs L1 L2) t l v).map (va_up g.fa a.nn f)) : CXx o (comeA a t cs L1 L2) (g.wfa (va_up g.fa a.nn f) ct') b' I' F' A E' := by
  obtain ⟨hb, hs, htb, hF, hR, ⟨k1, k2, k3, k4, k5⟩, hN, ⟨m1, m2, m3, m4, m5⟩, hC, hO, ⟨f1, f2, f3, f4, f5, f6, f7⟩⟩ := hM
  obtain ⟨pb, pF, p1, p2, p3, pct, pold, pnew, pex, pfr⟩ := hP
  obtain ⟨x1, x2, x3, x4, x5, x6⟩ := pF
  obtain ⟨g0, g1, g2, g3, g4, g5, g6, g7, g8, g9, g10, g11, g12, g13⟩ := comeA_f a t cs L1 L2
  have gb := base_come a t cs L1 L2
  have e1 : (comeA a t cs L1 L2).tn = a.tn := congrArg A1.tn g0
  have e2 : (comeA a t cs L1 L2).co = a.co := congrArg A1.co g0
  have ev : (comeA a t cs L1 L2).vv = a.vv := congrArg A1.vv g0
  have e3 : (comeA a t cs L1 L2).fo = a.fo := congrArg Prod.snd g13
  have e4 : (comeA a t cs L1 L2).2.2.1 = a.2.2.1 := congrArg Prod.fst g13
  have hnn : ∀ t' n, n ∈ a.rw t' → n ≠ a.nn := fun t' n hn z => by have := (hV.1.2.2.2.1 t' n hn).1; omega
  have memR : ∀ t' n, n ∈ (comeA a t cs L1 L2).rw t' ↔ n ∈ a.rw t' ∨ (n = a.nn ∧ t' = t) := fun t' n => by rw [g2]; exact mem_come hr
  have hall := allF_come hV ht (cs := cs) hr
  have up : ∀ ci x, Is b ci x → Is b' ci x := x1.1
  have eI : ∀ ci x, Is b ci x → I' x = I x := fun ci x hx => x4 x hx.1
  have eF : ∀ ci x j, Is b ci x → ci ≠ 0 → F' x j = F x j := fun ci x j hx hc => x5 ci x j hx (fun z => hc z.1)
  have eE : ∀ ci x j, Is b ci x → ci ≠ 1 → ci ≠ 4 → E' x j = E x j := fun ci x j hx h1 h4 => x6 ci x j hx (fun z => h4 z.1) (fun z => h1 z.1)
  have sI' : ∀ S, sI b S I I' := fun S ci x j hx _ => by rw [eI ci x hx]
  have sF' : ∀ S : List (Nat × Nat), S.all (fun p => p.1 != 0) = true → sF b S F F' := fun S hS ci x j hx hj => eF ci x j hx (fun z => by have := List.all_eq_true.mp hS _ hj; simp [z] at this)
  have sE' : ∀ S : List (Nat × Nat), S.all (fun p => p.1 != 1 && p.1 != 4) = true → sE b S E E' := fun S hS ci x j hx hj => eE ci x j hx (fun z => by have := List.all_eq_true.mp hS _ hj; simp [z] at this) (fun z => by have := List.all_eq_true.mp hS _ hj; simp [z] at this)
  have dn8 : ∀ x, Is b' 8 x → Is b 8 x := fun x hx => (x3 8 x hx).resolve_right (fun z => absurd z.1 (by decide))
  have hs3 := hs.2.2.1
  have hs5 := hs.2.2.2.2.1
  have hd : ∀ t, inT a t → Is b 10 (g.d t) := fun t h => (htb.2 t h).2.1
  -- a fact that was there
  have oldF : ∀ t' n, n ∈ a.rw t' → va_up g.fa a.nn f n = g.fa n := fun t' n hn => va_up_ne _ _ (hnn t' n hn)
  refine ⟨pb, CXs_eq hs up dn8 (sF' _ (by decide)) (sE' _ (by decide)), ?_, fun t' n hn => ?_, ⟨fun c hc => ?_, ?_, ?_, fun t' k n ht' hk hne hn => ?_⟩, ⟨?_, ?_, ?_, ?_⟩, ?_, ⟨?_, ?_, ?_, ?_, ?_⟩, ?_, ?_⟩
  · have := CXt_eq htb hs3 up pct (sI' _) (sF' _ (by decide)) (sA_rf (A := A)) (sE' _ (by decide))
    unfold CXt inT at this ⊢
    rw [e1, e2, g1]; exact this
  · show CF1 (comeA a t cs L1 L2) b' g.d (va_up g.fa a.nn f) I' F' A t' n
    rcases (memR t' n).mp hn with z | ⟨z, z'⟩
    · have := CF1_eq (hF t' n z).1 up (sI' _) (sF' _ (by decide)) (sA_rf (A := A))
      have hne := hnn t' n z
      unfold CF1 at this ⊢
      rw [oldF t' n z, g3, g4, g5, va_up_ne _ _ hne, va_up_ne _ _ hne, va_up_ne _ _ hne]
      exact this
    · subst z; subst z'
      unfold CF1
      rw [va_up_self, g3, g4, g5, va_up_self, va_up_self, va_up_self, eF 1 f 2 f1 (by decide), eI 1 f f1]
      exact ⟨up _ _ f1, f2, f4, f5, f6, f7⟩
  · show ChL F' E' (ix (I' c 0)) c ((rowL (comeA a t cs L1 L2) (ct' c) (ix (I' c 0)) (I' c 1)).map (va_up g.fa a.nn f))
    have hch := p1 c hc
    have eq : L' c = (rowL (comeA a t cs L1 L2) (ct' c) (ix (I' c 0)) (I' c 1)).map (va_up g.fa a.nn f) := by
      by_cases ho : Is b 0 c
      · rw [pold c ho, pct c ho, eI 0 c ho]
        have hw := (hR.2.1.1 c ho).2.1
        have hl5 : ix (I c 0) < 5 := ix_lt hw
        split
        · rename_i hc
          have hh : ix (I c 0) = 4 ∨ ix (I c 0) ≠ 4 ∧ cs (ix (I c 0)) = I c 1 := by
            rcases hc.2 with z | z
            · exact Or.inl z
            · exact Or.inr ⟨by omega, by rw [z.2]; exact (f4 _ z.1).symm⟩
          show pt ((rowL a (g.ct c) (ix (I c 0)) (I c 1)).map g.fa) = _
          rw [hc.1]; exact hpt _ _ hh
        · rename_i hc
          refine (rowL_oth hV hr (fun z => hc ⟨z.1, ?_⟩)).symm
          rcases z.2 with y | y
          · exact Or.inl y
          · by_cases h4 : ix (I c 0) = 4
            · exact Or.inl h4
            · exact Or.inr ⟨by omega, by rw [f4 _ (by omega)]; exact y.symm⟩
      · obtain ⟨y1, y2, y3, y4, y5⟩ := pnew c hc ho
        have hemp : rowL a t (ix (I' c 0)) (I' c 1) = [] := by
          unfold rowL
          rw [if_neg (by omega), List.filter_eq_nil_iff]
          intro n hn hv
          have hne : E (g.d t) 3 (ix (I' c 0)) ≠ none := by
            have := (p2.1 c hc).2.2.2 y3
            rw [y2, eE 10 _ 3 (hd t ht) (by decide) (by decide)] at this
            exact this
          obtain ⟨c0, z1, z2, z3, z4⟩ := hR.2.2.2 t _ n ht y3 hne hn
          exact y5 c0 z1 z2 z3 (by rw [z4, ← y4]; exact eq_of_beq hv)
        have := hpt (ix (I' c 0)) (I' c 1) (Or.inr ⟨by omega, by rw [y4]; exact (f4 _ y3).symm⟩)
        rw [hemp] at this
        rw [y1, y2, ← this]; rfl
    rw [← eq]; exact hch
  · rw [e1]; exact p2
  · rw [e1, e2]; exact p3
  · have ht' : inT a t' := by unfold inT at ht' ⊢; rw [e1] at ht'; exact ht'
    have hne : E (g.d t') 3 k ≠ none := by
      have := hne
      rw [show E' ((g.wfa (va_up g.fa a.nn f) ct').d t') 3 = E (g.d t') 3 from eE 10 _ 3 (hd t' ht') (by decide) (by decide)] at this
      exact this
    rw [g3]
    rcases (memR t' n).mp hn with z | ⟨z, z'⟩
    · obtain ⟨c, c1, c2, c3, c4⟩ := hR.2.2.2 t' k n ht' hk hne z
      rw [va_up_ne _ _ (hnn t' n z)]
      exact ⟨c, up _ _ c1, (pct c c1).trans c2, by rw [eI 0 c c1]; exact c3, by rw [eI 0 c c1]; exact c4⟩
    · subst z; subst z'
      obtain ⟨c, c1, c2, c3, c4⟩ := pex k hk hk hne
      rw [va_up_self]
      exact ⟨c, c1, c2, c3, by rw [c4]; exact f4 k hk⟩
  · intro i q hi hq
    rw [eE 9 _ 1 hs3 (by decide) (by decide)] at hq
    exact up _ _ (k1 i q hi hq)
  · show ∀ i j q, i < 3000 → j < 3000 → E' g.s 1 i = some q → E' g.s 1 j = some q → i = j
    rw [eE 9 _ 1 hs3 (by decide) (by decide)]; exact k2
  · rw [hall]
    intro i hi
    show ∃ t' n, n ∈ (comeA a t cs L1 L2).rw t' ∧ E' g.s 1 i = some (va_up g.fa a.nn f n)
    rw [eE 9 _ 1 hs3 (by decide) (by decide)]
    rcases k3 i hi with ⟨t', n, hn, e⟩ | e
    · exact ⟨t', n, (memR _ _).mpr (Or.inl hn), by rw [oldF t' n hn]; exact e⟩
    · exact ⟨t, a.nn, (memR _ _).mpr (Or.inr ⟨rfl, rfl⟩), by rw [va_up_self]; exact e⟩
  · rw [hall]
    intro t' n hn
    show ∃ i, i < (allF a).length + 1 ∧ E' g.s 1 i = some (va_up g.fa a.nn f n)
    rw [eE 9 _ 1 hs3 (by decide) (by decide)]
    rcases (memR t' n).mp hn with z | ⟨z, z'⟩
    · obtain ⟨i, i1, i2⟩ := k4 t' n z
      exact ⟨i, by omega, by rw [oldF t' n z]; exact i2⟩
    · subst z
      rw [va_up_self]; exact k5
  · unfold CXn
    rw [hall, g8, g9, g10]
    show (I' g.s 4).toInt = _ ∧ (I' g.s 5).toInt = _ ∧ (I' g.s 6).toInt = _ ∧ (I' g.s 7).toInt = _
    rw [eI 9 _ hs3]; exact hN
  · show (I' g.h 4).toInt = _
    rw [eI 3 _ hs5, g11]; exact m1
  · rw [g11]; exact m2
  · show (I' g.h 3).toInt = _
    rw [eI 3 _ hs5, g11, g12]; exact m3
  · rw [g12]
    show ∀ (i : Nat) (e : Nat × Bool), (if a.mk = [] then a.hs else a.hs ++ [(a.nn, false)])[i]? = some e → E' g.h 0 i = some (va_up g.fa a.nn f e.1) ∧ (A g.h 1 i ≠ 0 ↔ e.2 = true)
    rw [eE 3 _ 0 hs5 (by decide) (by decide)]; exact m4
  · intro t' n hn hb'
    rw [gb, g4] at hb'
    rw [g7]
    show F' (va_up g.fa a.nn f n) 3 = if va_up a.sn a.nn a.nn n = n then none else some (va_up g.fa a.nn f (va_up a.sn a.nn a.nn n))
    rcases (memR t' n).mp hn with z | ⟨z, z'⟩
    · have hne := hnn t' n z
      rw [va_up_ne _ _ hne] at hb'
      by_cases hm : a.mk = []
      · rw [if_pos hm, hV.2.2.1.2.2.1 hm] at hb'
        have := (hV.1.2.2.2.1 t' n z).2.2.2.1
        simp at hb'; omega
      · rw [if_neg hm] at hb'
        have hsn := (hV.2.2.1.2.2.2.2.2 t' n z hb').1
        rw [va_up_ne _ _ hne, va_up_ne _ _ hne, va_up_ne _ _ (hnn t' _ hsn), eF 1 _ 3 (hF t' n z).1.1 (by decide)]
        exact m5 hm t' n z hb'
    · subst z
      rw [va_up_self, va_up_self, if_pos rfl, eF 1 f 3 f1 (by decide)]
      exact f3
  · have eop : (comeA a t cs L1 L2).op = a.op := congrArg (fun z => z.1) e4
    have eov : (comeA a t cs L1 L2).ov = a.ov := congrArg (fun z => z.2.1) e4
    have ect : (comeA a t cs L1 L2).ct = a.ct := congrArg (fun z => z.2.2.1) e4
    have ecm : (comeA a t cs L1 L2).cm = a.cm := congrArg (fun z => z.2.2.2.1) e4
    have eci : (comeA a t cs L1 L2).ci = a.ci := congrArg (fun z => z.2.2.2.2.1) e4
    have ecl : (comeA a t cs L1 L2).cl = a.cl := congrArg (fun z => z.2.2.2.2.2.1) e4
    have ecd : (comeA a t cs L1 L2).cd = a.cd := congrArg (fun z => z.2.2.2.2.2.2.1) e4
    have ecv : (comeA a t cs L1 L2).cv = a.cv := congrArg (fun z => z.2.2.2.2.2.2.2) e4
    intro c hc
    obtain ⟨y1, y2⟩ := hC c hc
    rw [eop, eov, ect, ecm, eci, ecl, ecd, ecv]
    refine ⟨y1, fun hop => ?_⟩
    obtain ⟨⟨w1, w2, w3, w4, w5, w6, w7, w8⟩, w9⟩ := y2 hop
    have h5 := (hs.2.2.2.2.2.2.2.1 c hc).2.1
    refine ⟨⟨by unfold inT; rw [e1]; exact w1, by rw [eI 5 _ h5]; exact w2, by rw [eF 5 _ 2 h5 (by decide)]; exact w3, by rw [eI 5 _ h5, e2]; exact w4, by rw [eI 5 _ h5]; exact w5, ?_, w7, fun n hn => ?_⟩, by rw [eI 5 _ h5]; exact w9⟩
    · rw [eF 5 _ 5 h5 (by decide), w6]
      show (a.cl c).map g.fa = (a.cl c).map (va_up g.fa a.nn f)
      cases hcl : a.cl c with
      | none => rfl
      | some n =>
        show some (g.fa n) = some (va_up g.fa a.nn f n)
        rw [oldF _ n (w8 n hcl).1]
    · obtain ⟨z1, z2⟩ := w8 n hn
      refine ⟨(memR _ _).mpr (Or.inl z1), ?_⟩
      unfold fitB at z2 ⊢
      rw [e2, g3, va_up_ne _ _ (hnn _ n z1)]; exact z2
  · have := CXo_eq hO hs.1 (sI' _) (sA_rf (A := A))
    unfold CXo at this ⊢
    rw [ev, e3]; exact this
end VO1
