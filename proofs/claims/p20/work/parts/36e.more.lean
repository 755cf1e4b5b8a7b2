set_option linter.unusedVariables false
set_option linter.unusedSimpArgs false
/-! SOLVING -/
def ZS (b : CT) (g : Gh) (o s h : Nat) (vv : Nat → Int32) (v sp r : Nat) (I : Nat → Nat → Int32) (F : Nat → Nat → Option Nat) (A : Nat → Nat → Nat → Int32) (E : Nat → Nat → Nat → Option Nat) (N : Nat) : Prop :=
  KV b g o s h vv I F A E (N + 1) NW ∧ HZ h I ∧ Is b 8 v ∧ F v 6 = some r ∧ Is b 6 r ∧ F v 2 = some sp ∧ Is b 7 sp ∧ (∀ (i q : Nat), (i : Int) < (I r 1).toInt → i < 10 → E r 0 i = some q → TbG b I F q) ∧ (0 ≤ (I v 1).toInt ∧ (I v 1).toInt ≤ 50000) ∧ 0 ≤ (I sp 2).toInt
/-- what stays as the solver goes on -/
def Mo (b : CT) (g : Gh) (v : Nat) (I I' : Nat → Nat → Int32) (F F' : Nat → Nat → Option Nat) : Prop := (∀ l, Rd b g F l → Rd b g F' l) ∧ (∀ l, Is b 5 l → I l 7 = 0 → I' l 7 = 0) ∧ (∀ q, Is b 2 q → I' q = I q ∧ F' q = F q) ∧ (∀ a, ¬ Is b 5 a → F' a = F a) ∧ ∀ c a, Is b c a → c ≠ 5 → c ≠ 7 → c ≠ 8 → I' a = I a
section C31
variable {b : CT} {g : Gh} {o s h N r q v sp : Nat} {vv vv' : Nat → Int32} {x : HS} {I I' I'' : Nat → Nat → Int32} {F F' F'' : Nat → Nat → Option Nat} {A A' : Nat → Nat → Nat → Int32} {E : Nat → Nat → Nat → Option Nat} {W : Nat → Prop} {X : String → HS → Prop} {Q : HS → Prop} {QI : Int32 → HS → Prop} {QF : Option Nat → HS → Prop}
theorem Mo_rf : Mo b g v I I F F := ⟨fun _ h => h, fun _ _ h => h, fun _ _ => ⟨rfl, rfl⟩, fun _ _ => rfl, fun _ _ _ _ _ _ => rfl⟩
theorem Mo_tr (h : Mo b g v I I' F F') (h2 : Mo b g v I' I'' F' F'') : Mo b g v I I'' F F'' :=
  ⟨fun l z => h2.1 l (h.1 l z), fun l z z2 => h2.2.1 l z (h.2.1 l z z2), fun q hq => ⟨by rw [(h2.2.2.1 q hq).1, (h.2.2.1 q hq).1], by rw [(h2.2.2.1 q hq).2, (h.2.2.1 q hq).2]⟩, fun a ha => by rw [h2.2.2.2.1 a ha, h.2.2.2.1 a ha], fun c a ha z1 z2 z3 => by rw [h2.2.2.2.2 c a ha z1 z2 z3, h.2.2.2.2 c a ha z1 z2 z3]⟩
/-- where KV holds again, the solver's state does -/
theorem ZS_Mo (hs : ZS b g o s h vv v sp r I F A E N) (hm : Mo b g v I I' F F') (hk : KV b g o s h vv I' F' A' E (N + 1) NW) (hz : HZ h I') (h1 : 0 ≤ (I' v 1).toInt ∧ (I' v 1).toInt ≤ 50000) (h2 : 0 ≤ (I' sp 2).toInt) : ZS b g o s h vv v sp r I' F' A' E N := by
  obtain ⟨-, -, z1, z2, z3, z4, z5, z6, -, -⟩ := hs
  obtain ⟨m1, m2, m3, m4, m5⟩ := hm
  have nv : ¬ Is b 5 v := fun z => absurd (z.2.symm.trans z1.2) (by decide)
  have s11 := hk.2.2.1.2.2.2.2.2.2.2.2.2.2.1
  refine ⟨hk, hz, z1, by rw [m4 v nv]; exact z2, z3, by rw [m4 v nv]; exact z4, z5, fun i q hi hi2 he => ?_, h1, h2⟩
  rw [m5 6 r z3 (by decide) (by decide) (by decide)] at hi
  obtain ⟨q', w1, w2⟩ := s11 r z3 i hi2
  rw [he] at w1; cases w1
  have := z6 i q hi hi2 he
  unfold TbG
  rw [(m3 q w2).1, (m3 q w2).2]; exact this
theorem Mo_look {l : Nat} (hL : LO b g I F E) (hl : Is b 5 l) (h1 : Ol l I I') (h2 : Ol l F F') (hR : Rd b g F' l) (h7 : I l 7 = 0 → I' l 7 = 0) : Mo b g v I I' F F' := by
  refine ⟨fun l' hl' => Rd_Ol hL hl' h2 hl hR, fun l' hl' h0 => ?_, fun q hq => ⟨h1 q (Is_ne hq hl (by decide)), h2 q (Is_ne hq hl (by decide))⟩, fun a ha => h2 a (fun z => ha (by rw [z]; exact hl)), fun c a ha z1 _ _ => h1 a (Is_ne ha hl z1)⟩
  by_cases hq : l' = l
  · rw [hq] at h0 ⊢; exact h7 h0
  · rw [h1 l' hq]; exact h0
theorem Mo_I {c a j : Nat} {w : Int32} (ha : Is b c a) (hc : c = 7 ∨ c = 8) : Mo b g v I (up2 I a j w) F F :=
  ⟨fun _ h => h, fun l hl h0 => by rw [up2_a _ _ _ _ (Is_ne hl ha (by omega))]; exact h0, fun q hq => ⟨up2_row _ _ _ (Is_ne hq ha (by omega)), rfl⟩, fun _ _ => rfl, fun c' a' ha' z1 z2 z3 => up2_row _ _ _ (Is_ne ha' ha (by omega))⟩
theorem KV_A (hk : KV b g o s h vv I F A E N NW) {c a : Nat} (ha : Is b c a) (h3 : Ol a A A') (hc : c = 7 ∨ c = 8) : KV b g o s h vv I F A' E N NW :=
  KV_eq0 hk ⟨fun _ _ _ _ _ => rfl, fun _ _ _ _ _ => rfl, fun c' a' j ha' hr => by
    rw [h3 a' (Is_ne ha' ha (fun z => ?_))]
    rw [z] at hr
    rcases hc with rfl | rfl
    · simp only [rA2, rA3, List.mem_cons, List.not_mem_nil, or_false, Prod.mk.injEq] at hr; omega
    · simp only [rA2, rA3, List.mem_cons, List.not_mem_nil, or_false, Prod.mk.injEq] at hr; omega, fun _ _ _ _ _ => rfl⟩ (fun _ _ => ⟨rfl, rfl⟩)
theorem ZS_A (hs : ZS b g o s h vv v sp r I F A E N) {c a : Nat} (ha : Is b c a) (h3 : Ol a A A') (hc : c = 7 ∨ c = 8) : ZS b g o s h vv v sp r I F A' E N := ZS_Mo hs Mo_rf (KV_A hs.1 ha h3 hc) hs.2.1 hs.2.2.2.2.2.2.2.2.1 hs.2.2.2.2.2.2.2.2.2
theorem ZS_GO (hs : ZS b g o s h vv v sp r I F A E N) : GO b I A := hs.1.2.2.2.2.2.2.2.2.1.2
theorem z_value (hs : ZS b g o s h vv v sp r I F A E N) (hq : Is b 2 q) {k : Int32} (hk : wIn k 4) (hQ : ∀ w, QI w (cS b I F A E)) : w_X8_valueOf (some v) (some q) k (cS b I F A E) QI X := by
  have hb := hs.1.1
  have hv := hs.2.2.1
  simp only [w_X8_valueOf, cw hb, hq, hk, hv, true_and, wJoin, wIf]
  exact ⟨fun h1 => ⟨(ZS_GO hs q hq).1 (ix k) (ix_lt hk) (Or.inl h1), hQ _⟩, fun _ => hQ _⟩
theorem z_begin (hs : ZS b g o s h vv v sp r I F A E N) (hq : Is b 2 q) {l t : Nat} (hl : Is b 5 l) (ht : F q 3 = some t) (ht2 : Is b 10 t) (hQ : ∀ I' F' A', ZS b g o s h vv v sp r I' F' A' E N → Mo b g v I I' F F' → Rd b g F' l → I' l 7 = 0 → I' v = I v → I' sp = I sp → Q (cS b I' F' A' E)) : w_X8_beginLook (some v) (some l) (some q) (cS b I F A E) Q X := by
  have hb := hs.1.1
  have hv := hs.2.2.1
  have hsp := hs.2.2.2.2.2.2.1
  simp only [w_X8_beginLook]
  refine wLoop_i (fun n k x => ∃ A1, x = cS b I F A1 E ∧ ZS b g o s h vv v sp r I F A1 E N ∧ 0 ≤ k.toInt ∧ n = (4 - k.toInt).toNat) 4 ⟨A, rfl, hs, by decide, by decide⟩ ?_
  rintro n k x again ha ⟨A1, rfl, p1, p2, p3⟩
  refine ⟨fun _ => ?_, fun hk => ?_⟩
  · simp only [cw hb, hq, hv, hl, ht]
    refine c_begin hb hl ht2 ⟨8, v, 5, rfl, hv, by decide, by decide⟩ (fun I' F' A' z1 z2 z3 z4 z5 z6 => ?_)
    have hR : Rd b g F' l := ⟨hl, t, z4, ht2, fun f hf => by rw [z5] at hf; exact absurd hf (by simp)⟩
    obtain ⟨y1, y2⟩ := KV_look p1.1 hl z1 z2 z3 hR
    have hm : Mo b g v I I' F F' := Mo_look p1.1.2.1.1 hl z1 z2 hR (fun _ => z6)
    have ev : I' v = I v := z1 v (Is_ne hv hl (by decide))
    have es : I' sp = I sp := z1 sp (Is_ne hsp hl (by decide))
    exact hQ I' F' A' (ZS_Mo p1 hm y1 (y2 p1.2.1) (by rw [ev]; exact p1.2.2.2.2.2.2.2.2.1) (by rw [es]; exact p1.2.2.2.2.2.2.2.2.2)) hm hR z6 ev es
  · have hv4 : k.toInt < 4 := by simp only [i32, Int32.reduceToInt] at hk; omega
    have ek : (k + 1).toInt = k.toInt + 1 := i_add rfl (by decide) (by omega)
    have hin : wIn k 4 := ⟨p2, by omega⟩
    simp only [cw hb, hq, hv]
    refine c_isIn (fun r1 _ => ?_)
    refine wJoin_i (fun K => ∀ w, K w (cS b I F A1 E)) (fun w => ?_) (fun K hK => ⟨fun _ => hK _, fun _ => ?_⟩)
    · simp only [cw hb, hv, hin, true_and]
      exact ha _ _ _ (by omega) ⟨_, rfl, ZS_A p1 hv (Ol_up3 Ol_rf) (Or.inr rfl), by omega, rfl⟩
    · rw [c_recv hv]
      exact z_value p1 hq hin (fun w => hK w)
theorem z_bind (hs : ZS b g o s h vv v sp r I F A E N) (hq : Is b 2 q) {t f : Nat} (ht : F q 3 = some t) (ht2 : Is b 10 t) (hf : Is b 1 f) (hQ : ∀ w A', (w = 0 ∨ w = 1) → ZS b g o s h vv v sp r I F A' E N → QI w (cS b I F A' E)) : w_X8_bind (some v) (some q) (some f) (cS b I F A E) QI X := by
  have hb := hs.1.1
  have hv := hs.2.2.1
  simp only [w_X8_bind]
  have tc := (hs.1.2.1.1.2.2.1 t ht2).1
  refine wLoop_i (fun n k x => ∃ A1, x = cS b I F A1 E ∧ ZS b g o s h vv v sp r I F A1 E N ∧ 0 ≤ k.toInt ∧ n = (4 - k.toInt).toNat) 4 ⟨A, rfl, hs, by decide, by decide⟩ ?_
  rintro n k x again ha ⟨A1, rfl, p1, p2, p3⟩
  simp only [cw hb, hq, ht, ht2, wBit1]
  refine ⟨fun _ => hQ _ _ (Or.inr rfl) p1, fun hk => ?_⟩
  have hv4 : k.toInt < 4 := by simp only [i32] at hk; omega
  have ek : (k + 1).toInt = k.toInt + 1 := i_add rfl (by decide) (by omega)
  have hin : wIn k 4 := ⟨p2, by omega⟩
  refine ⟨hin, ?_⟩
  refine wJoin_i (fun K => ∀ A2, ZS b g o s h vv v sp r I F A2 E N → K (cS b I F A2 E)) (fun A2 q1 => ha _ _ _ (by omega) ⟨A2, rfl, q1, by omega, rfl⟩) (fun K hK => ⟨fun h1 => ?_, fun _ => ?_⟩)
  · have ha := (ZS_GO p1 q hq).1 (ix k) (ix_lt hin) (Or.inr (Or.inl h1))
    simp only [cw hb, hv, hq, hf, hin, ha, true_and]
    exact hK _ (ZS_A p1 hv (Ol_up3 Ol_rf) (Or.inr rfl))
  · simp only [cw hb, hv, hq, hf, hin, true_and]
    refine ⟨fun h3 => ?_, fun _ => hK _ p1⟩
    have ha := (ZS_GO p1 q hq).1 (ix k) (ix_lt hin) (Or.inr (Or.inr h3))
    simp only [cw hb, hv, hq, hf, hin, ha, true_and, wBit0]
    exact ⟨fun _ => hK _ p1, fun _ => hQ _ _ (Or.inl rfl) p1⟩
end C31
