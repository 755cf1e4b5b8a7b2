set_option linter.unusedVariables false
set_option linter.unusedSimpArgs false
/-! lists; the changes never fill their row -/
theorem rest_of {n : Nat} {S : List Nat} : ∀ {P : List Nat}, n ∉ P → restA (P ++ n :: S) (some n) = S
  | [], _ => by simp [restA]
  | x :: P, h => by
      have hx : x ≠ n := fun z => h (by rw [z]; exact List.mem_cons_self)
      have ih := rest_of (S := S) (P := P) (fun z => h (List.mem_cons_of_mem _ z))
      have ih : (List.dropWhile (fun y => y != n) (P ++ n :: S)).drop 1 = S := ih
      show (List.dropWhile (fun y => y != n) (x :: (P ++ n :: S))).drop 1 = S
      rw [List.dropWhile_cons, if_pos (by simp [hx])]
      exact ih
theorem rest_suf {L : List Nat} {la : Option Nat} (hd : L.Nodup) (h : ∀ n, la = some n → n ∈ L) : ∃ P, L = P ++ restA L la := by
  cases la with
  | none => exact ⟨[], rfl⟩
  | some n =>
    obtain ⟨A, e⟩ := rest_split (h n rfl) hd
    exact ⟨A ++ [n], by rw [List.append_assoc]; exact e⟩
theorem rest_next {L : List Nat} {la : Option Nat} {p : Nat → Bool} {n : Nat} (hd : L.Nodup) (hla : ∀ n, la = some n → n ∈ L) (h : (restA L la).find? p = some n) : (restA L la).filter p = n :: (restA L (some n)).filter p := by
  obtain ⟨P, eP⟩ := rest_suf hd hla
  obtain ⟨hp, as, bs, e, hno⟩ := List.find?_eq_some_iff_append.mp h
  have e2 : L = (P ++ as) ++ n :: bs := by rw [List.append_assoc, ← e]; exact eP
  have hn : n ∉ P ++ as := fun z => by
    rw [e2] at hd
    exact (List.nodup_append.mp hd).2.2 n z n List.mem_cons_self rfl
  have e3 : restA L (some n) = bs := by rw [e2]; exact rest_of hn
  rw [e3, e, List.filter_append, List.filter_cons_of_pos hp]
  have : as.filter p = [] := List.filter_eq_nil_iff.mpr (fun x hx => by have := hno x hx; simpa using this)
  rw [this]; rfl
theorem rest_none {L : List Nat} {la : Option Nat} {p : Nat → Bool} (h : (restA L la).find? p = none) : (restA L la).filter p = [] := List.filter_eq_nil_iff.mpr (fun x hx => by have := List.find?_eq_none.mp h x hx; exact this)
theorem len_sub : ∀ {L1 L2 : List Nat}, L1.Nodup → (∀ x, x ∈ L1 → x ∈ L2) → L1.length ≤ L2.length
  | [], L2, _, _ => Nat.zero_le _
  | x :: L1, L2, hn, hs => by
      have hn' := List.nodup_cons.mp hn
      have hx := hs x List.mem_cons_self
      have ih := len_sub (L1 := L1) (L2 := L2.erase x) hn'.2 (fun y hy => (List.mem_erase_of_ne (fun z => hn'.1 (by rw [← z]; exact hy))).mpr (hs y (List.mem_cons_of_mem _ hy)))
      have hl := List.length_erase_of_mem hx
      have h0 : 0 < L2.length := List.length_pos_of_mem hx
      rw [List.length_cons]; omega
theorem hs_nd {f : Nat → Int} {w : Bool} {B : Int} : ∀ {M : List (Nat × Bool)} {j : Nat}, (∀ (k : Nat) (e : Nat × Bool), M[k]? = some e → e.2 = w → f e.1 = B + j + k + 1) → ((M.filter fun e => e.2 == w).map Prod.fst).Nodup ∧ ∀ n, n ∈ (M.filter fun e => e.2 == w).map Prod.fst → B + j < f n
  | [], j, _ => ⟨List.nodup_nil, fun n hn => absurd hn List.not_mem_nil⟩
  | e :: M, j, h => by
      obtain ⟨i1, i2⟩ := hs_nd (f := f) (w := w) (B := B) (M := M) (j := j + 1) (fun k e' he hw => by
        have := h (k + 1) e' (by rw [List.getElem?_cons_succ]; exact he) hw
        omega)
      rw [List.filter_cons]
      by_cases hw : e.2 = w
      · have h0 := h 0 e rfl hw
        rw [if_pos (by simp [hw]), List.map_cons]
        refine ⟨List.nodup_cons.mpr ⟨fun z => ?_, i1⟩, fun n hn => ?_⟩
        · have := i2 _ z; omega
        · rcases List.mem_cons.mp hn with z | z
          · rw [z]; omega
          · have := i2 n z; omega
      · rw [if_neg (by simp [hw])]
        exact ⟨i1, fun n hn => by have := i2 n hn; omega⟩
theorem hs_split (M : List (Nat × Bool)) : (M.filter fun e => e.2 == false).length + (M.filter fun e => e.2 == true).length = M.length := by
  induction M with
  | nil => rfl
  | cons e M ih =>
    rw [List.filter_cons, List.filter_cons]
    cases he : e.2 with
    | false => rw [if_pos (by decide), if_neg (by decide), List.length_cons, List.length_cons]; omega
    | true => rw [if_neg (by decide), if_pos (by decide), List.length_cons, List.length_cons]; omega
theorem hs_le {a : AS} (hV : AV a) : a.hs.length ≤ (allF a).length + ((allF a).filter fun n => !(aliveB a n)).length := by
  obtain ⟨hr, hk, ⟨h1, h2, h3, h4, h5, h6⟩, hc, ho⟩ := id hV
  have hB : 0 ≤ baseT a := by unfold baseT; omega
  obtain ⟨c1, -⟩ := hs_nd (f := a.fb) (w := false) (B := baseT a) (M := a.hs) (j := 0) (fun k e he hw => by have := (h5 k e he).2.1 hw; omega)
  obtain ⟨d1, d2⟩ := hs_nd (f := a.fd) (w := true) (B := baseT a) (M := a.hs) (j := 0) (fun k e he hw => by have := (h5 k e he).2.2 hw; omega)
  have inF : ∀ (w : Bool) n, n ∈ (a.hs.filter fun e => e.2 == w).map Prod.fst → n ∈ allF a := fun w n hn => by
    obtain ⟨e, he, rfl⟩ := List.mem_map.mp hn
    obtain ⟨k, hk, ek⟩ := List.mem_iff_getElem.mp (List.mem_filter.mp he).1
    exact (mem_allF hr).mpr ⟨_, (h5 k e (by rw [List.getElem?_eq_getElem hk, ek])).1⟩
  have l1 := len_sub c1 (inF false)
  have l2 := len_sub (L2 := (allF a).filter fun n => !(aliveB a n)) d1 (fun n hn => List.mem_filter.mpr ⟨inF true n hn, by
    have := d2 n hn
    unfold aliveB
    simp; omega⟩)
  rw [List.length_map] at l1 l2
  have := hs_split a.hs
  omega
theorem filter_lt {p : Nat → Bool} {L : List Nat} {n : Nat} (hn : n ∈ L) (hp : p n = false) : (L.filter p).length < L.length := by
  obtain ⟨A, B, e, -⟩ := mem_split hn
  rw [e, List.filter_append, List.filter_cons_of_neg (by simp [hp]), List.length_append, List.length_append, List.length_cons]
  have h1 := List.length_filter_le p A
  have h2 := List.length_filter_le p B
  omega
theorem hs_go {a : AS} (hV : AV a) {t n : Nat} (hn : n ∈ a.rw t) (hd : a.fd n = -1) : a.hs.length < 6000 := by
  have h1 := hs_le hV
  have h2 := hV.1.2.2.2.2.2.2.1
  have h3 := filter_lt (p := fun n => !(aliveB a n)) ((mem_allF hV.1).mpr ⟨t, hn⟩) (by unfold aliveB; simp [hd])
  omega
theorem hs_come {a : AS} (hV : AV a) (hl : (allF a).length < 3000) : a.hs.length < 6000 := by
  have h1 := hs_le hV
  have h3 := List.length_filter_le (fun n => !(aliveB a n)) (allF a)
  omega
section VI1
variable {b : CT} {I I' : Nat → Nat → Int32} {F F' : Nat → Nat → Option Nat} {A A' : Nat → Nat → Nat → Int32} {E E' : Nat → Nat → Nat → Option Nat} {o t n n' k f c p x w j ci q s h l : Nat} {a : AS} {g : CGs} {lk d r ct fa : Nat → Nat} {y : HS} {X X' : String → HS → Prop} {Q Q' : HS → Prop} {QI QI' : Int32 → HS → Prop} {QF QF' : Option Nat → HS → Prop}
/-- a change is noted, or there is no mark -/
theorem qc_note (hb : CB b) (hh : Is b 3 h) {w : Int32} {mk : Nat} (hmk : (I h 4).toInt = (mk : Int)) {len : Nat} (hlen : mk ≠ 0 → (I h 3).toInt = (len : Int)) (hlt : len < 6000)
    (h0 : mk = 0 → Q (cS b I F A E) → Q' (cS b I F A E)) (h1 : mk ≠ 0 → ∀ v : Int32, v.toInt = ((len + 1 : Nat) : Int) → Q (cS b (up2 I h 3 v) F (up3 A h 1 len w) (up3 E h 0 len (some f))) → Q' (cS b (up2 I h 3 v) F (up3 A h 1 len w) (up3 E h 0 len (some f)))) : w_X3_note (some h) (some f) w (cS b I F A E) Q X → w_X3_note (some h) (some f) w (cS b I F A E) Q' X' := by
  unfold w_X3_note
  refine qc_getI (fun _ => ?_)
  dsimp only [wJoin]
  refine qv_if (fun z => h0 ?_) (fun z => ?_)
  · simp only [i32, Int32.reduceToInt] at z; omega
  · simp only [i32, Int32.reduceToInt] at z
    have hlen := hlen (by omega)
    refine qc_getI (fun _ => ?_)
    refine qc_getA hb (by decide) (fun _ => ?_)
    refine qc_len hb hh (by decide) (by decide) ?_
    refine qv_if (fun z2 => ?_) (fun _ => ?_)
    · have e6 : (Int32.ofNat (oL 3 0)).toInt = 6000 := by decide
      simp only [i32] at z2
      rw [e6] at z2; omega
    · refine qc_getA hb (by decide) (fun _ => ?_)
      refine qc_getI (fun _ => ?_)
      refine qc_astG hb hh (by decide) (by decide) (fun _ _ => ?_)
      refine qc_getA hb (by decide) (fun _ => ?_)
      refine qc_getI (fun _ => ?_)
      refine qc_astZ hb hh (by decide) (fun _ => ?_)
      refine qc_getI (fun _ => ?_)
      refine qc_putI (fun _ => ?_)
      rw [ix_of hlen]
      exact h1 (by omega) _ (by rw [i_add hlen (show (1 : Int32).toInt = 1 by decide) (by omega)]; omega)
/-- the history, when a change has been noted -/
theorem CXh_note {a' : AS} {e : Nat × Bool} {w : Int32} (hw : w ≠ 0 ↔ e.2 = true) {v : Int32} (hv : v.toInt = ((a.hs.length + 1 : Nat) : Int)) {sz : Nat} (hmk0 : a.mk ≠ []) (hH : CXh a h sz fa I F A E) (e1 : a'.mk = a.mk) (e2 : a'.hs = a.hs ++ [e]) {fa' : Nat → Nat} (hfa : ∀ e', e' ∈ a.hs → fa' e'.1 = fa e'.1)
    (hI : I' h 4 = I h 4) (hI3 : I' h 3 = v) (hA2 : A' h 2 = A h 2) (hA1 : A' h 1 = va_up (A h 1) a.hs.length w) (hE : E' h 0 = va_up (E h 0) a.hs.length (some (fa' e.1)))
    (h5 : ∀ t n, n ∈ a'.rw t → baseT a' < a'.fb n → F' (fa' n) 3 = if a'.sn n = n then none else some (fa' (a'.sn n))) : CXh a' h sz fa' I' F' A' E' := by
  obtain ⟨g1, g2, g3, g4, g5⟩ := hH
  refine ⟨by rw [hI, e1]; exact g1, by rw [e1, hA2]; exact g2, by rw [hI3, e1, if_neg hmk0, e2, List.length_append, hv]; rfl, ?_, h5⟩
  rw [e2, hA1, hE]
  intro i e' he
  by_cases hi : i < a.hs.length
  · rw [List.getElem?_append_left hi] at he
    rw [va_up_ne _ _ (by omega), va_up_ne _ _ (by omega), hfa e' (List.mem_of_getElem? he)]
    exact g4 i e' he
  · rw [List.getElem?_append_right (by omega)] at he
    have hi2 : i = a.hs.length := by
      have := (List.getElem?_eq_some_iff.mp he).1
      simp at this; omega
    subst hi2
    simp at he
    subst he
    rw [va_up_self, va_up_self]
    exact ⟨rfl, hw⟩
/-- what a look that is not a cursor keeps, while a fact goes or comes -/
def sL (q : Nat) (I I' : Nat → Nat → Int32) (F F' : Nat → Nat → Option Nat) (A A' : Nat → Nat → Nat → Int32) : Prop := I' q = I q ∧ F' q = F q ∧ A' q = A q
theorem qc_go2 (hx : CXx o a g b I F A E) (hV : AV a) (hn : n ∈ a.rw t) (hd : a.fd n = -1) (hT : a.tm < 2000000000)
    (h : ∀ I' A' E', CXx o (goA a n) g b I' F A' E' → (∀ q, Is b 5 q → sL q I I' F F A A') → (a.mk = [] → E' g.h = E g.h ∧ A' g.h = A g.h) → Q (cS b I' F A' E') → Q' (cS b I' F A' E')) : w_X9_go (some g.s) (some (g.fa n)) (cS b I F A E) Q X → w_X9_go (some g.s) (some (g.fa n)) (cS b I F A E) Q' X' := by
  obtain ⟨hb, hs, ht, hF, hR, hK, hN, hH, hC, hO⟩ := id hx
  obtain ⟨s1, s2, s3, s4, s5, -⟩ := id hs
  have hFn := hF t n hn
  have hfa : ∀ t n, n ∈ a.rw t → Is b 1 (g.fa n) := fun t n h => (hF t n h).1
  have h0 : 0 ≤ a.tm := by have := hV.1.2.2.2.2.1; omega
  obtain ⟨g0, g1, g2, g3, g4, g5, g6, g7, g8, g9, g10, g11, g12, g13⟩ := goA_f a n
  have gb := base_go a n
  unfold w_X9_go
  refine qc_getI (fun _ => ?_)
  refine qc_putI (fun _ => ?_)
  refine qc_getI (fun _ => ?_)
  rw [up2_self]
  refine qc_putI (fun _ => ?_)
  refine qc_getF hb (by decide) (fun _ => ?_)
  rw [s4]
  refine qc_recv (fun _ => ?_)
  have e22 : (I g.s 6 + 1).toInt = a.tm + 1 := i_add hN.2.2.1 (by decide) (by omega)
  have hsf : g.s ≠ g.fa n := Is_ne s3 hFn.1 (by decide)
  generalize hI1 : up2 (up2 I g.s 6 (I g.s 6 + 1)) (g.fa n) 6 (I g.s 6 + 1) = I1
  have i1 : I1 (g.fa n) 6 = I g.s 6 + 1 := by rw [← hI1]; exact up2_self _ _ _ _
  have i2 : I1 g.s 6 = I g.s 6 + 1 := by rw [← hI1]; exact (if_neg (fun z => hsf z.1)).trans (up2_self _ _ _ _)
  have i3 : ∀ x j, ¬ (x = g.s ∧ j = 6) → ¬ (x = g.fa n ∧ j = 6) → I1 x j = I x j := fun x j z1 z2 => by rw [← hI1]; exact (if_neg z2).trans (if_neg z1)
  have i4 : ∀ ci x j, Is b ci x → (ci, j) ≠ (9, 6) → (ci, j) ≠ (1, 6) → I1 x j = I x j := fun ci x j hx z1 z2 => i3 x j (fun z => z1 (by rw [← hx.2, z.1, s3.2, z.2])) (fun z => z2 (by rw [← hx.2, z.1, hFn.1.2, z.2]))
  have lno : ∀ q, Is b 5 q → I1 q = I q := fun q hq => funext fun j => i4 5 q j hq (by simp) (by simp)
  -- all but the history
  have rest : ∀ I2 A2 E2, (∀ x, x ≠ g.h → I2 x = I1 x) → (∀ x, x ≠ g.h → A2 x = A x) → (∀ x, x ≠ g.h → E2 x = E x) → I2 g.h 4 = I1 g.h 4 → CXh (goA a n) g.h g.sz g.fa I2 F A2 E2 → CXx o (goA a n) g b I2 F A2 E2 := fun I2 A2 E2 z1 z2 z3 z4 zH => by
    have nh : ∀ ci x, Is b ci x → ci ≠ 3 → x ≠ g.h := fun ci x hx hc => Is_ne hx s5 hc
    have e1 : (goA a n).tn = a.tn := congrArg A1.tn g0
    have e2 : (goA a n).co = a.co := congrArg A1.co g0
    have e3 : (goA a n).fo = a.fo := congrArg Prod.snd g13
    have e4 : (goA a n).2.2.1 = a.2.2.1 := congrArg Prod.fst g13
    have ev : (goA a n).vv = a.vv := congrArg A1.vv g0
    have sI2 : ∀ S : List (Nat × Nat), (∀ j, (3, j) ∉ S) → (9, 6) ∉ S → (1, 6) ∉ S → sI b S I I2 := fun S h1 h2 h3 ci x j hx hj => by
      have hc : ci ≠ 3 := fun z => h1 j (by rw [← z]; exact hj)
      rw [z1 x (nh ci x hx hc)]
      exact i4 ci x j hx (fun z => h2 (by rw [← z]; exact hj)) (fun z => h3 (by rw [← z]; exact hj))
    have sA2 : ∀ S : List (Nat × Nat), (∀ j, (3, j) ∉ S) → sA b S A A2 := fun S h1 ci x j hx hj => by rw [z2 x (nh ci x hx (fun z => h1 j (by rw [← z]; exact hj)))]
    have sE2 : ∀ S : List (Nat × Nat), (∀ j, (3, j) ∉ S) → sE b S E E2 := fun S h1 ci x j hx hj => by rw [z3 x (nh ci x hx (fun z => h1 j (by rw [← z]; exact hj)))]
    have no3 : ∀ (S : List (Nat × Nat)), S.all (fun p => p.1 != 3) = true → ∀ j, (3, j) ∉ S := fun S hS j z => by have := List.all_eq_true.mp hS _ z; simp at this
    refine ⟨hb, CXs_eq hs (fun _ _ h => h) (fun _ h => h) sF_rf (sE2 _ (no3 _ (by decide))), ?_, fun t' n' hn' => ?_, ?_, ?_, ?_, zH, ?_, ?_⟩
    · have := CXt_eq ht s3 (fun _ _ h => h) (fun _ _ => rfl) (sI2 _ (no3 _ (by decide)) (by decide) (by decide)) sF_rf (sA2 _ (no3 _ (by decide))) (sE2 _ (no3 _ (by decide)))
      unfold CXt inT at this ⊢
      rw [e1, e2, g1]; exact this
    · rw [g2] at hn'
      obtain ⟨y1, y2, y3, y4, y5, y6⟩ := hF t' n' hn'
      have hne := nh _ _ y1 (by decide)
      unfold CF1
      rw [z1 _ hne, z2 _ hne, i4 1 _ 4 y1 (by simp) (by simp), i4 1 _ 5 y1 (by simp) (by simp), g3, g4, g5]
      refine ⟨y1, y2, y3, y4, y5, ?_⟩
      by_cases e : n' = n
      · subst e; rw [va_up_self, i1]; exact e22
      · rw [va_up_ne _ _ e, i3 _ _ (fun z => Is_ne y1 s3 (by decide) z.1) (fun z => e (fa_inj (hF t' n' hn') hFn z.1))]; exact y6
    · have := CXr_eq hR (fun t h => (ht.2 t h).2.1) hfa (sI2 _ (no3 _ (by decide)) (by decide) (by decide)) (sF_rf (F := F)) (sE2 _ (no3 _ (by decide)))
      unfold CXr rowL inT at this ⊢
      rw [e1, e2, g2, g3]; exact this
    · have := CXk_eq hK s3 (fun _ _ h => h) (sE2 _ (no3 _ (by decide)))
      unfold CXk at this ⊢
      rw [allF_eq g2, g2]; exact this
    · unfold CXn
      have hsn := nh _ _ s3 (by decide)
      rw [z1 _ hsn, i2, i4 9 _ 4 s3 (by simp) (by simp), i4 9 _ 5 s3 (by simp) (by simp), i4 9 _ 7 s3 (by simp) (by simp), allF_eq g2, g8, g9, g10]
      exact ⟨hN.1, hN.2.1, e22, hN.2.2.2⟩
    · have eop : (goA a n).op = a.op := congrArg (fun z => z.1) e4
      have eov : (goA a n).ov = a.ov := congrArg (fun z => z.2.1) e4
      have ect : (goA a n).ct = a.ct := congrArg (fun z => z.2.2.1) e4
      have ecm : (goA a n).cm = a.cm := congrArg (fun z => z.2.2.2.1) e4
      have eci : (goA a n).ci = a.ci := congrArg (fun z => z.2.2.2.2.1) e4
      have ecl : (goA a n).cl = a.cl := congrArg (fun z => z.2.2.2.2.2.1) e4
      have ecd : (goA a n).cd = a.cd := congrArg (fun z => z.2.2.2.2.2.2.1) e4
      have ecv : (goA a n).cv = a.cv := congrArg (fun z => z.2.2.2.2.2.2.2) e4
      have := CXc_eq hC s1 (sA2 _ (no3 _ (by decide))) (I' := I2) (F' := F) (fun c hc => by
        have h5 := (hs.2.2.2.2.2.2.2.1 c hc).2.1
        have hne := nh _ _ h5 (by decide)
        exact ⟨by rw [z1 _ hne, lno _ h5], rfl, by rw [z2 _ hne]⟩)
      unfold CXc Lk1 inT fitB at this ⊢
      rw [eop, eov, ect, ecm, eci, ecl, ecd, ecv, e1, e2, g2, g3]; exact this
    · have := CXo_eq hO s1 (sI2 _ (no3 _ (by decide)) (by decide) (by decide)) (sA2 _ (no3 _ (by decide)))
      unfold CXo at this ⊢
      rw [ev, e3]; exact this
  have hh4 : I1 g.h 4 = I g.h 4 := i4 3 _ 4 s5 (by simp) (by simp)
  have hh3 : I1 g.h 3 = I g.h 3 := i4 3 _ 3 s5 (by simp) (by simp)
  refine qc_note hb s5 (mk := a.mk.length) (len := a.hs.length) (by rw [hh4]; exact hH.1) (fun z => by rw [hh3, hH.2.2.1, if_neg (fun y => z (by rw [y]; rfl))]) (hs_go hV hn hd) (fun z => ?_) (fun z v hv => ?_)
  · have hm : a.mk = [] := List.eq_nil_of_length_eq_zero z
    refine h _ _ _ (rest _ _ _ (fun _ _ => rfl) (fun _ _ => rfl) (fun _ _ => rfl) rfl ?_) (fun q hq => ⟨lno q hq, rfl, rfl⟩) (fun _ => ⟨rfl, rfl⟩)
    unfold CXh
    have e12 : (goA a n).hs = a.hs := by rw [g12, if_pos hm]
    rw [hh4, hh3, g11, e12, g2, g4, g7]
    refine ⟨hH.1, hH.2.1, hH.2.2.1, hH.2.2.2.1, fun t' n' hn' hb' => ?_⟩
    rw [gb, if_pos hm, hV.2.2.1.2.2.1 hm] at hb'
    have := (hV.1.2.2.2.1 t' n' hn').2.2.2.1
    simp at hb'; omega
  · have hm : a.mk ≠ [] := fun y => z (by rw [y]; rfl)
    refine h _ _ _ (rest _ _ _ (fun x hx => funext fun j => if_neg (fun y => hx y.1)) (fun x hx => funext fun j => up3_ne (fun y => hx y.1)) (fun x hx => funext fun j => up3_ne (fun y => hx y.1)) (if_neg (fun y => absurd y.2 (by decide))) ?_) (fun q hq => ⟨?_, rfl, ?_⟩) (fun y => absurd y hm)
    · refine CXh_note (e := (n, true)) (w := 1) (by simp) hv hm hH g11 (by rw [g12, if_neg hm]) (fun _ _ => rfl) ?_ (up2_self _ _ _ _) (up3_ne (fun y => absurd y.2 (by decide))) up3_at up3_at ?_
      · exact (if_neg (fun y => absurd y.2 (by decide))).trans hh4
      · rw [g2, g4, g7, gb, if_neg hm]; exact hH.2.2.2.2
    · funext j
      exact (if_neg (fun y => Is_ne hq s5 (by decide) y.1)).trans (congrFun (lno q hq) j)
    · funext j
      exact up3_ne (fun y => Is_ne hq s5 (by decide) y.1)
theorem qc_go (hx : CXx o a g b I F A E) (hV : AV a) (hn : n ∈ a.rw t) (hd : a.fd n = -1) (hT : a.tm < 2000000000)
    (h : ∀ I' A' E', CXx o (goA a n) g b I' F A' E' → (∀ q, Is b 5 q → sL q I I' F F A A') → Q (cS b I' F A' E') → Q' (cS b I' F A' E')) : w_X9_go (some g.s) (some (g.fa n)) (cS b I F A E) Q X → w_X9_go (some g.s) (some (g.fa n)) (cS b I F A E) Q' X' := qc_go2 hx hV hn hd hT (fun I' A' E' h1 h2 _ => h I' A' E' h1 h2)
end VI1
