set_option linter.unusedVariables false
set_option linter.unusedSimpArgs false
/-! the class: back, put together -/
section VT1
variable {b b' : CT} {I I' : Nat → Nat → Int32} {F F' : Nat → Nat → Option Nat} {A A' : Nat → Nat → Nat → Int32} {E E' : Nat → Nat → Nat → Option Nat} {o t n n' k f p w j ci q s h l N : Nat} {a c : AS} {g : CGs} {cs : Nat → Int32} {d r ct fa : Nat → Nat} {x y : HS} {X X' : String → HS → Prop} {Q Q' : HS → Prop} {QI QI' : Int32 → HS → Prop} {QF QF' : Option Nat → HS → Prop}
theorem mk_lastC (hH : CXh a h s fa I F A E) (h8 : a.mk.length ≤ 8) (hmk : a.mk ≠ []) : (A h 2 (ix (I h 4 - 1))).toInt = (lastM a : Int) ∧ lastM a ∈ a.mk ∧ (I h 4 - 1).toInt = ((a.mk.length - 1 : Nat) : Int) := by
  have hl : 0 < a.mk.length := List.length_pos_iff.mpr hmk
  have e1 : (I h 4 - 1).toInt = ((a.mk.length - 1 : Nat) : Int) := by
    rw [i_sub hH.1 (show (1 : Int32).toInt = 1 by decide) (by omega)]; omega
  have e2 : a.mk[a.mk.length - 1]? = some (lastM a) := by
    unfold lastM
    rw [List.getLast?_eq_getElem?, List.getElem?_eq_getElem (by omega)]; rfl
  rw [ix_of e1]
  exact ⟨hH.2.1 _ _ e2, List.mem_of_getElem? e2, e1⟩
theorem qc_gone (hx : CXx o a g b I F A E) (hV : AV a) (hmk : a.mk ≠ []) (h6 : a.hs.length ≤ 6000) (h : ∀ v : Int32, v.toInt = (goneN a : Int) → QI v (cS b I F A E) → QI' v (cS b I F A E)) : w_X3_goneSinceMark (some g.h) (cS b I F A E) QI X → w_X3_goneSinceMark (some g.h) (cS b I F A E) QI' X' := by
  have hb := hx.1
  have hs := hx.2.1
  have hH := hx.2.2.2.2.2.2.2.1
  have s5 := hs.2.2.2.2.1
  obtain ⟨m1, m2, m3⟩ := mk_lastC hH hV.2.2.1.1 hmk
  have hlH := hV.2.2.1.2.1 _ m2
  have hsz : (I g.h 3).toInt = (a.hs.length : Int) := by have := hH.2.2.1; rw [if_neg hmk] at this; exact this
  have hpos := List.length_pos_iff.mpr hmk
  unfold w_X3_goneSinceMark
  refine qc_getI (fun _ => ?_)
  dsimp only [wJoin]
  refine qv_if (fun z => ?_) (fun _ => ?_)
  · simp only [i32, Int32.reduceToInt] at z
    rw [hH.1] at z; omega
  · refine qc_getA hb (by decide) (fun _ => ?_)
    refine qc_getI (fun _ => ?_)
    refine qc_ald hb s5 (by decide) (by decide) (fun _ => ?_)
    refine qc_loop0 (fun v => ∃ C S, a.hs.drop (lastM a) = C ++ S ∧ v.2.toInt = ((lastM a + C.length : Nat) : Int) ∧ v.1.toInt = ((C.filter fun e => e.2).length : Int)) ⟨[], a.hs.drop (lastM a), rfl, m1, by show (0 : Int32).toInt = ((0 : Nat) : Int); decide⟩ (fun v again again' ⟨C, S, s1, s2, s3⟩ ha => ?_)
    have hAS : a.hs.length - lastM a = C.length + S.length := by
      have := congrArg List.length s1
      rw [List.length_drop, List.length_append] at this; exact this
    have hfl := List.length_filter_le (fun e : Nat × Bool => e.2) C
    refine qc_getI (fun _ => ?_)
    refine qv_if (fun z => h _ ?_) (fun z => ?_)
    · simp only [i32] at z
      rw [hsz] at z
      have hS0 : S = [] := List.eq_nil_of_length_eq_zero (by omega)
      rw [hS0, List.append_nil] at s1
      unfold goneN; rw [s1]; exact s3
    · simp only [i32] at z
      rw [hsz] at z
      cases S with
      | nil => simp only [List.length_nil] at hAS; omega
      | cons e S =>
        have he : a.hs[lastM a + C.length]? = some e := by
          rw [← List.getElem?_drop, s1, List.getElem?_append_right (Nat.le_refl _), Nat.sub_self]; rfl
        obtain ⟨-, e24⟩ := hH.2.2.2.1 _ e he
        refine qc_getA hb (by decide) (fun _ => ?_)
        refine qc_ald hb s5 (by decide) (by decide) (fun _ => ?_)
        rw [ix_of s2]
        have s1' : a.hs.drop (lastM a) = (C ++ [e]) ++ S := by rw [s1]; simp
        have n2 : (v.2 + 1).toInt = ((lastM a + (C ++ [e]).length : Nat) : Int) := by
          rw [i_add s2 (show (1 : Int32).toInt = 1 by decide) (by omega), List.length_append]; simp only [List.length_cons, List.length_nil]; omega
        refine qv_if (fun z2 => ?_) (fun z2 => ?_)
        · have hw : e.2 = false := by
            cases hq : e.2 with
            | false => rfl
            | true => exact absurd z2 (e24.mpr hq)
          refine ha _ ⟨C ++ [e], S, s1', n2, ?_⟩
          show (v.1 + 0).toInt = _
          rw [i_add s3 (show (0 : Int32).toInt = 0 by decide) (by omega), List.filter_append, List.filter_cons_of_neg (by simp [hw])]
          simp
        · have hw := e24.mp z2
          refine ha _ ⟨C ++ [e], S, s1', n2, ?_⟩
          show (v.1 + 1).toInt = _
          rw [List.filter_append, List.filter_cons_of_pos (by simp [hw]), List.length_append, i_add s3 (show (1 : Int32).toInt = 1 by decide) (by omega)]
          rfl
theorem hs_6 {a : AS} (hV : AV a) : a.hs.length ≤ 6000 := by
  have h1 := hs_le hV
  have h3 := List.length_filter_le (fun n => !(aliveB a n)) (allF a)
  have := hV.1.2.2.2.2.2.2.1
  omega
theorem drop_f (a : AS) : (restH (dropA a)).1 = a.1 ∧ (restH (dropA a)).2.1 = (a.ky, a.rw, a.fc, a.fb, a.fd, a.ft, a.sn, a.nn, a.tm, a.hz, a.mk.dropLast, if a.mk.dropLast = [] then [] else a.hs) ∧ (restH (dropA a)).2.2 = a.2.2 := by
  unfold restH
  by_cases hm : a.mk.dropLast = []
  · have hm' : (dropA a).mk = [] := hm
    rw [if_pos hm', if_pos hm]; exact ⟨rfl, rfl, rfl⟩
  · have hm' : ¬ (dropA a).mk = [] := hm
    rw [if_neg hm', if_neg hm]; exact ⟨rfl, rfl, rfl⟩
/-- the mark is taken off -/
theorem CXx_drop (hx : CXx o a g b I F A E) (hV : AV a) (hmk : a.mk ≠ []) {v : Int32} (hv : v.toInt = ((a.mk.length - 1 : Nat) : Int)) : CXx o (restH (dropA a)) (g.wsz a.hs.length) b (up2 I g.h 4 v) F A E := by
  obtain ⟨d1, d2, d3⟩ := drop_f a
  have hx' : CXx o a (g.wsz a.hs.length) b I F A E := by
    obtain ⟨hb, hs, ht, hFa, hR, hK, hN, hH, hC, hO⟩ := hx
    refine ⟨hb, hs, ht, hFa, hR, hK, hN, ⟨hH.1, hH.2.1, ?_, hH.2.2.2⟩, hC, hO⟩
    have := hH.2.2.1
    rw [if_neg hmk] at this ⊢
    exact this
  have hH := hx.2.2.2.2.2.2.2.1
  have emk := congrArg (fun z : AF => z.2.2.2.2.2.2.2.2.2.2.1) d2
  have emk : (restH (dropA a)).mk = a.mk.dropLast := emk
  have ehs := congrArg (fun z : AF => z.2.2.2.2.2.2.2.2.2.2.2) d2
  have ehs : (restH (dropA a)).hs = if a.mk.dropLast = [] then [] else a.hs := ehs
  have erw := congrArg (fun z : AF => z.2.1) d2
  have erw : (restH (dropA a)).rw = a.rw := erw
  have efb := congrArg (fun z : AF => z.2.2.2.1) d2
  have efb : (restH (dropA a)).fb = a.fb := efb
  have esn := congrArg (fun z : AF => z.2.2.2.2.2.2.1) d2
  have esn : (restH (dropA a)).sn = a.sn := esn
  have etm := congrArg (fun z : AF => z.2.2.2.2.2.2.2.2.1) d2
  have etm : (restH (dropA a)).tm = a.tm := etm
  refine CXx_h hx' d1 (by rw [d2, emk, ehs]) d3 (fun x hx => funext fun j => if_neg (fun z => hx z.1)) (fun _ _ => rfl) ⟨?_, ?_, ?_, ?_, ?_⟩
  · show (up2 I g.h 4 v g.h 4).toInt = _
    rw [up2_self, hv, emk, List.length_dropLast]
  · rw [emk]
    intro i m him
    have hi := (List.getElem?_eq_some_iff.mp him).1
    rw [List.length_dropLast] at hi
    rw [List.getElem?_dropLast, if_pos (by omega)] at him
    exact hH.2.1 i m him
  · have e3 : up2 I g.h 4 v g.h 3 = I g.h 3 := if_neg (fun z => absurd z.2 (by decide))
    show (up2 I g.h 4 v g.h 3).toInt = if (restH (dropA a)).mk = [] then ((a.hs.length : Nat) : Int) else ((restH (dropA a)).hs.length : Int)
    have h3 := hH.2.2.1
    rw [if_neg hmk] at h3
    rw [e3, h3, emk, ehs]
    by_cases hm : a.mk.dropLast = []
    · rw [if_pos hm]
    · rw [if_neg hm, if_neg hm]
  · rw [ehs]
    intro i e he
    by_cases hm : a.mk.dropLast = []
    · rw [if_pos hm] at he; simp at he
    · rw [if_neg hm] at he; exact hH.2.2.2.1 i e he
  · rw [erw, efb, esn]
    intro t n hn hb'
    refine hH.2.2.2.2 t n hn ?_
    unfold baseT at hb' ⊢
    rw [etm, ehs] at hb'
    by_cases hm : a.mk.dropLast = []
    · rw [if_pos hm] at hb'
      simp at hb'
      omega
    · rw [if_neg hm] at hb'; exact hb'
theorem CBi_0 (hx : CXx o a g b I F A E) (hV : AV a) (hz : CZ a) (hmk : a.mk ≠ []) (hlen : (allF a).length + goneN a ≤ 3000) {v : Int32} (hv : v.toInt = ((a.mk.length - 1 : Nat) : Int)) : CBi o a g a.hs.length (restH (dropA a)) (g.wsz a.hs.length) b (up2 I g.h 4 v) F A E := by
  obtain ⟨d1, d2, d3⟩ := drop_f a
  have hH := hx.2.2.2.2.2.2.2.1
  have hBA := BA_0 hV hz hmk hlen
  have ehs := congrArg (fun z : AF => z.2.2.2.2.2.2.2.2.2.2.2) d2
  have ehs : (restH (dropA a)).hs = if a.mk.dropLast = [] then [] else a.hs := ehs
  have emk := congrArg (fun z : AF => z.2.2.2.2.2.2.2.2.2.2.1) d2
  have emk : (restH (dropA a)).mk = a.mk.dropLast := emk
  have esn := congrArg (fun z : AF => z.2.2.2.2.2.2.1) d2
  have esn : (restH (dropA a)).sn = a.sn := esn
  refine ⟨hBA, CXx_drop hx hV hmk hv, ⟨rfl, rfl, rfl⟩, fun _ _ _ => rfl, fun z k hk => ?_, fun _ k e he => hH.2.2.2.1 k e he, fun t n hn hb' hnd => ?_⟩
  · rw [emk] at z
    rw [ehs, if_neg z]
  · rw [esn]; exact hH.2.2.2.2 t n hn hb'
theorem qc_turn (hx : CXx o a g b I F A E) (hW : AVW a) (hz : CZ a) (hmk : a.mk ≠ []) (hlen : (allF a).length + goneN a ≤ 3000) {v lv : Int32} (hv : v.toInt = ((a.mk.length - 1 : Nat) : Int)) (hlv : lv.toInt = (lastM a : Int))
    (h : ∀ r g2 b' I' F' A' E', r.toInt = ((a.hs.length - lastM a : Nat) : Int) → CBi o a g (lastM a) ((a.hs.drop (lastM a)).reverse.foldl turnA (restH (dropA a))) g2 b' I' F' A' E' → QI r (cS b' I' F' A' E') → QI' r (cS b' I' F' A' E')) : w_X9_turn (some g.s) lv (cS b (up2 I g.h 4 v) F A E) QI X → w_X9_turn (some g.s) lv (cS b (up2 I g.h 4 v) F A E) QI' X' := by
  have hV := hW.1.1
  have hb := hx.1
  have hs := hx.2.1
  have hH := hx.2.2.2.2.2.2.2.1
  have hlH : lastM a ≤ a.hs.length := hV.2.2.1.2.1 _ (mk_lastC hH hV.2.2.1.1 hmk).2.1
  have h6 := hs_6 hV
  have hB0 := CBi_0 hx hV hz hmk hlen hv
  have hsz : (up2 I g.h 4 v g.h 3).toInt = (a.hs.length : Int) := by
    have h3 := hH.2.2.1
    rw [if_neg hmk] at h3
    exact (congrArg Int32.toInt (if_neg (fun z => absurd z.2 (by decide)))).trans h3
  unfold w_X9_turn
  refine qc_getF hb (by decide) (fun _ => ?_)
  rw [hs.2.2.2.1]
  refine qc_getI (fun _ => ?_)
  generalize up2 I g.h 4 v = I1 at hB0 hsz ⊢
  generalize I1 g.h 3 = hvv at hsz ⊢
  have er : (hvv - lv).toInt = ((a.hs.length - lastM a : Nat) : Int) := by
    rw [i_sub hsz hlv (by omega)]; omega
  refine qc_loop (fun v b' I' F' A' E' => ∃ (i : Nat) (g2 : CGs), v.toInt = (i : Int) - 1 ∧ lastM a ≤ i ∧ i ≤ a.hs.length ∧ CBi o a g i ((a.hs.drop i).reverse.foldl turnA (restH (dropA a))) g2 b' I' F' A' E') ⟨a.hs.length, _, i_sub hsz (by decide) (by omega), hlH, Nat.le_refl _, by rw [List.drop_length]; exact hB0⟩ (fun v b' I' F' A' E' again again' ⟨i, g2, i1, i2, i3, hI⟩ ha => ?_)
  dsimp only [wJoin]
  refine qv_if (fun z => ?_) (fun z => qv_if (fun z2 => ?_) (fun z2 => ?_))
  · simp only [i32] at z
    have : i = lastM a := by omega
    subst this
    exact h _ g2 _ _ _ _ _ er hI
  · simp only [i32, Int32.reduceToInt] at z z2
    omega
  · simp only [i32, Int32.reduceToInt] at z z2
    obtain ⟨i', rfl⟩ : ∃ i', i = i' + 1 := ⟨i - 1, by omega⟩
    have hlt : i' < a.hs.length := by omega
    have he : a.hs[i']? = some a.hs[i'] := List.getElem?_eq_getElem hlt
    have ed : (a.hs.drop i').reverse.foldl turnA (restH (dropA a)) = turnA ((a.hs.drop (i' + 1)).reverse.foldl turnA (restH (dropA a))) a.hs[i'] := by
      rw [List.drop_eq_getElem_cons hlt, List.reverse_cons, List.foldl_append]; rfl
    have hTm := hW.1.2
    refine qc_turn1 hW.2 hV hI he (by omega) (by rw [hI.1.2.2.1]; omega) (v := v) (by omega) (K := fun x => again (v + (-1)) x) (K' := fun x => again' (v + (-1)) x) (fun g3 b3 I3 F3 A3 E3 hI3 => ?_)
    rw [← ed] at hI3
    refine ha _ _ _ _ _ _ ⟨i', g3, ?_, by omega, by omega, hI3⟩
    rw [i_add i1 (show (-1 : Int32).toInt = -1 by decide) (by omega)]; omega
/-- where no mark is, the changes are forgotten -/
theorem qc_forget (hx : CXx o c g b I F A E) (h : ∀ I', CXx o c (g.wsz 0) b I' F A E → Q (cS b I' F A E) → Q' (cS b I' F A E)) : w_X3_forgetWithoutMarks (some g.h) (cS b I F A E) Q X → w_X3_forgetWithoutMarks (some g.h) (cS b I F A E) Q' X' := by
  have hH := hx.2.2.2.2.2.2.2.1
  unfold w_X3_forgetWithoutMarks
  refine qc_getI (fun _ => ?_)
  dsimp only [wJoin]
  have key : ∀ I', (∀ x, x ≠ g.h → I' x = I x) → I' g.h 4 = I g.h 4 → (I' g.h 3).toInt = (if c.mk = [] then ((0 : Nat) : Int) else (c.hs.length : Int)) → CXx o c (g.wsz 0) b I' F A E := fun I' z1 z2 z3 => by
    have hx0 : ∀ (hH' : CXh c g.h 0 g.fa I' F A E), CXx o c (g.wsz 0) b I' F A E := fun hH' => by
      obtain ⟨hb, hs, ht, hFa, hR, hK, hN, -, hC, hO⟩ := hx
      have s5 := hs.2.2.2.2.1
      have sI' : ∀ S : List (Nat × Nat), S.all (fun p => p.1 != 3) = true → sI b S I I' := fun S hS ci x j hx hj => by
        rw [z1 x (fun z => by
          have := List.all_eq_true.mp hS _ hj
          have e : ci = 3 := by rw [← hx.2, z]; exact s5.2
          simp [e] at this)]
      have hd : ∀ t, inT c t → Is b 10 (g.d t) := fun t h => (ht.2 t h).2.1
      have hfa : ∀ t n, n ∈ c.rw t → Is b 1 (g.fa n) := fun t n h => (hFa t n h).1
      exact ⟨hb, hs, CXt_eq ht hs.2.2.1 (fun _ _ h => h) (fun _ _ => rfl) (sI' _ (by decide)) sF_rf sA_rf sE_rf, fun t n hn => CF1_eq (hFa t n hn) (fun _ _ h => h) (sI' _ (by decide)) sF_rf sA_rf, CXr_eq hR hd hfa (sI' _ (by decide)) sF_rf sE_rf, hK, CXn_eq hN hs.2.2.1 (sI' _ (by decide)), hH', CXc_eq hC hs.1 sA_rf (fun c hc => ⟨z1 _ (Is_ne (hs.2.2.2.2.2.2.2.1 c hc).2.1 s5 (by decide)), rfl, rfl⟩), CXo_eq hO hs.1 (sI' _ (by decide)) sA_rf⟩
    exact hx0 ⟨by rw [z2]; exact hH.1, hH.2.1, z3, hH.2.2.2⟩
  refine qv_if (fun z => ?_) (fun z => ?_)
  · have hm : c.mk = [] := by
      have := hH.1
      rw [z] at this
      have e0 : (0 : Int32).toInt = 0 := by decide
      exact List.eq_nil_of_length_eq_zero (by omega)
    refine qc_putI (fun _ => ?_)
    refine h _ (key _ (fun x hx => funext fun j => if_neg (fun y => hx y.1)) (if_neg (fun y => absurd y.2 (by decide))) ?_)
    rw [up2_self, if_pos hm]; decide
  · have hm : c.mk ≠ [] := fun y => z (i_ext (by rw [hH.1, y]; decide))
    refine h _ (key _ (fun _ _ => rfl) rfl ?_)
    have := hH.2.2.1
    rw [if_neg hm] at this ⊢
    exact this
theorem kc_back (hk : KC o (N + 1) a x) (hW : AVW a) (hcz : CZ a) (k : Int32) : w_X11_back (some o) k x (fun r u => OK_back a k 0 r ∧ KC o N (nx_back a k) u) (fun E u => (E = eIS ∧ OK_back a k 1 0) ∧ KC o N (nx_back a k) u) := by
  have h := kc1_back hk.1 k
  obtain ⟨g, b, I, F, A, E, rfl, hz, hx⟩ := hk.2
  have hV := hW.1.1
  have hb := hx.1
  have hs := hx.2.1
  have hH := hx.2.2.2.2.2.2.2.1
  have hN := hx.2.2.2.2.2.2.1
  have s5 := hs.2.2.2.2.1
  have hle := hV.1.2.2.2.2.2.2.1
  have h6 := hs_6 hV
  revert h
  unfold w_X11_back OK_back
  have n0 : backCd a k ≠ 0 → nx_back a k = a := fun z => if_neg z
  have n1 : backCd a k = 0 → nx_back a k = backA a k := fun z => if_pos z
  generalize nx_back a k = nx at n0 n1 ⊢
  refine qc_getF hb (by decide) (fun _ => ?_)
  rw [hs.2.1]
  refine qc_getF hb (by decide) (fun _ => ?_)
  rw [hs.2.2.2.1]
  refine qc_getI (fun _ => ?_)
  have bad : ∀ {PP : Prop}, backCd a k = 1 → PP ∧ KC1 o N (nx1_back a.1 k) (cS (b.B.wC (b.B.c - 1) (b.B.z - 6), b.2) I F A E) → (eIS = eIS ∧ EX (backCd a k) (if k ≠ 0 then num (a.hs.length - lastM a) else 0) 1 0) ∧ KC o N nx (cS (b.B.wC (b.B.c - 1) (b.B.z - 6), b.2) I F A E) := fun {PP} e h => by
    rw [n0 (by rw [e]; decide)]
    exact ⟨⟨rfl, EX_bad e (by decide)⟩, h.2, CX_wC hz hx⟩
  refine qv_if (fun z => ?_) (fun z => ?_)
  · have hm : a.mk = [] := by
      have := hH.1
      rw [z] at this
      have e0 : (0 : Int32).toInt = 0 := by decide
      exact List.eq_nil_of_length_eq_zero (by omega)
    exact qc_throw (bad (if_pos hm))
  have hmk : a.mk ≠ [] := fun y => z (i_ext (by rw [hH.1, y]; decide))
  obtain ⟨m1, m2, m3⟩ := mk_lastC hH hV.2.2.1.1 hmk
  have hgl : goneN a ≤ a.hs.length := by
    unfold goneN
    have h1 := List.length_filter_le (fun e : Nat × Bool => e.2) (a.hs.drop (lastM a))
    rw [List.length_drop] at h1; omega
  have hgood : (k = 0 ∨ (allF a).length + goneN a ≤ 3000) → backCd a k = 0 := fun hk => by
    unfold backCd
    rw [if_neg hmk, if_neg (fun z => ?_)]
    rcases hk with hk | hk
    · exact z.1 hk
    · exact absurd z.2 (by omega)
  -- the mark is dropped, and so on
  have tl : (k = 0 ∨ (allF a).length + goneN a ≤ 3000) →
      (wGetF (cS b I F A E) 11 2 (some o) fun v6 => wGetF (cS b I F A E) 9 2 v6 fun v7 => wRecv (cS b I F A E) 3 v7 (w_X3_dropMark v7 (cS b I F A E) (fun v9 x8 => wIf (k = 0) (wGetF x8 11 2 (some o) fun v13 => wGetF x8 9 2 v13 fun v14 => wRecv x8 3 v14 (w_X3_forgetWithoutMarks v14 x8 (fun x15 => OK1_back a.1 k 0 0 ∧ KC1 o N (nx1_back a.1 k) x15) (fun E u => (E = eIS ∧ OK1_back a.1 k 1 0) ∧ KC1 o N (nx1_back a.1 k) u))) (wGetF x8 11 2 (some o) fun v17 => wRecv x8 9 v17 (w_X9_turn v17 v9 x8 (fun v19 x18 => wGetF x18 11 2 (some o) fun v13 => wGetF x18 9 2 v13 fun v14 => wRecv x18 3 v14 (w_X3_forgetWithoutMarks v14 x18 (fun x15 => OK1_back a.1 k 0 v19 ∧ KC1 o N (nx1_back a.1 k) x15) (fun E u => (E = eIS ∧ OK1_back a.1 k 1 0) ∧ KC1 o N (nx1_back a.1 k) u))) (fun E u => (E = eIS ∧ OK1_back a.1 k 1 0) ∧ KC1 o N (nx1_back a.1 k) u)))) (fun E u => (E = eIS ∧ OK1_back a.1 k 1 0) ∧ KC1 o N (nx1_back a.1 k) u))) →
      (wGetF (cS b I F A E) 11 2 (some o) fun v6 => wGetF (cS b I F A E) 9 2 v6 fun v7 => wRecv (cS b I F A E) 3 v7 (w_X3_dropMark v7 (cS b I F A E) (fun v9 x8 => wIf (k = 0) (wGetF x8 11 2 (some o) fun v13 => wGetF x8 9 2 v13 fun v14 => wRecv x8 3 v14 (w_X3_forgetWithoutMarks v14 x8 (fun x15 => EX (backCd a k) (if k ≠ 0 then num (a.hs.length - lastM a) else 0) 0 0 ∧ KC o N nx x15) (fun E u => (E = eIS ∧ EX (backCd a k) (if k ≠ 0 then num (a.hs.length - lastM a) else 0) 1 0) ∧ KC o N nx u))) (wGetF x8 11 2 (some o) fun v17 => wRecv x8 9 v17 (w_X9_turn v17 v9 x8 (fun v19 x18 => wGetF x18 11 2 (some o) fun v13 => wGetF x18 9 2 v13 fun v14 => wRecv x18 3 v14 (w_X3_forgetWithoutMarks v14 x18 (fun x15 => EX (backCd a k) (if k ≠ 0 then num (a.hs.length - lastM a) else 0) 0 v19 ∧ KC o N nx x15) (fun E u => (E = eIS ∧ EX (backCd a k) (if k ≠ 0 then num (a.hs.length - lastM a) else 0) 1 0) ∧ KC o N nx u))) (fun E u => (E = eIS ∧ EX (backCd a k) (if k ≠ 0 then num (a.hs.length - lastM a) else 0) 1 0) ∧ KC o N nx u)))) (fun E u => (E = eIS ∧ EX (backCd a k) (if k ≠ 0 then num (a.hs.length - lastM a) else 0) 1 0) ∧ KC o N nx u))) := fun hk2 => by
    have ecd := hgood hk2
    rw [n1 ecd]
    refine qc_getF hb (by decide) (fun _ => ?_)
    rw [hs.2.1]
    refine qc_getF hb (by decide) (fun _ => ?_)
    rw [hs.2.2.2.1]
    refine qc_recv (fun _ => ?_)
    unfold w_X3_dropMark
    refine qc_getI (fun _ => ?_)
    refine qv_if (fun y => absurd y z) (fun _ => ?_)
    refine qc_getI (fun _ => ?_)
    refine qc_putI (fun _ => ?_)
    refine qc_getA hb (by decide) (fun _ => ?_)
    refine qc_getI (fun _ => ?_)
    rw [up2_self]
    refine qc_ald hb s5 (by decide) (by decide) (fun _ => ?_)
    refine qv_if (fun k0 => ?_) (fun k0 => ?_)
    · have hxd := CXx_drop hx hV hmk m3
      have eb : backA a k = restH (dropA a) := by unfold backA; rw [if_neg (fun z => z k0)]
      rw [eb]
      refine qc_getF hb (by decide) (fun _ => ?_)
      rw [hs.2.1]
      refine qc_getF hb (by decide) (fun _ => ?_)
      rw [hs.2.2.2.1]
      refine qc_recv (fun _ => ?_)
      refine qc_forget (g := g.wsz a.hs.length) hxd (fun I' hx' h => ?_)
      refine ⟨EX_ok ecd (by rw [if_neg (fun z => z k0)]), ?_, _, _, _, _, _, _, rfl, rfl, hx'⟩
      rw [(drop_f a).1]; exact h.2
    · have hlen := hk2.resolve_left k0
      have eb : backA a k = (a.hs.drop (lastM a)).reverse.foldl turnA (restH (dropA a)) := by unfold backA; rw [if_pos k0, rest_turns]
      rw [eb]
      refine qc_getF hb (by decide) (fun _ => ?_)
      rw [hs.2.1]
      refine qc_recv (fun _ => ?_)
      refine qc_turn hx hW hcz hmk hlen m3 m1 (fun r g2 b' I' F' A' E' hr hI => ?_)
      obtain ⟨hBA, hx2, ⟨y1, y2, y3⟩, -⟩ := hI
      have hs2 := hx2.2.1
      refine qc_getF hx2.1 (by decide) (fun _ => ?_)
      rw [hs2.2.1]
      refine qc_getF hx2.1 (by decide) (fun _ => ?_)
      rw [hs2.2.2.2.1]
      refine qc_recv (fun _ => ?_)
      refine qc_forget hx2 (fun I3 hx3 h => ?_)
      refine ⟨EX_ok ecd (by rw [if_pos k0]; exact num_of hr), ?_, _, _, _, _, _, _, rfl, rfl, hx3⟩
      rw [hBA.2.1]; exact h.2
  dsimp only [wJoin]
  refine qv_if (fun k0 => tl (Or.inl k0)) (fun k0 => ?_)
  refine qc_getF hb (by decide) (fun _ => ?_)
  rw [hs.2.1]
  refine qc_recv (fun _ => ?_)
  unfold w_X9_hasRoomToTurn
  refine qc_getF hb (by decide) (fun _ => ?_)
  rw [hs.2.2.2.1]
  refine qc_recv (fun _ => ?_)
  refine qc_gone hx hV hmk h6 (fun gv hgv => ?_)
  refine qc_getI (fun _ => ?_)
  dsimp only [wJoin]
  have e3 : ((3000 : Int32) - I g.s 4).toInt = 3000 - ((allF a).length : Int) := i_sub (by decide) hN.1 (by omega)
  refine qv_if (fun z2 => qc_bit ?_) (fun z2 => qc_bit ?_)
  · simp only [i32, e3, hgv] at z2
    refine qv_if (fun _ => ?_) (fun y => absurd rfl y)
    refine qc_throw (bad ?_)
    unfold backCd
    rw [if_neg hmk, if_pos ⟨k0, by omega⟩]
  · simp only [i32, e3, hgv] at z2
    exact qv_if (fun y => absurd y (by decide)) (fun _ => tl (Or.inr (by omega)))
end VT1
