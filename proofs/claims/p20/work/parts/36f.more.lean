set_option linter.unusedVariables false
set_option linter.unusedSimpArgs false
section C32
variable {b : CT} {g : Gh} {o s h N r q v sp : Nat} {vv vv' : Nat → Int32} {x : HS} {I I' I'' : Nat → Nat → Int32} {F F' F'' : Nat → Nat → Option Nat} {A A' : Nat → Nat → Nat → Int32} {E : Nat → Nat → Nat → Option Nat} {W : Nat → Prop} {X : String → HS → Prop} {Q : HS → Prop} {QI : Int32 → HS → Prop} {QF : Option Nat → HS → Prop}
theorem z_adv (hs : ZS b g o s h vv v sp r I F A E N) (hq : Is b 2 q) {t l : Nat} (ht : F q 3 = some t) (ht2 : Is b 10 t) (hl : Rd b g F l) (h7 : I l 7 = 0) (hX : ∀ x', KInv o N vv x' → X eAE x') (hQ : ∀ w I' F' A', (w = 0 ∨ w = 1) → ZS b g o s h vv v sp r I' F' A' E N → Mo b g v I I' F F' → Rd b g F' l → I' l 7 = 0 → I' sp = I sp → (I v 1).toInt ≤ (I' v 1).toInt → (w ≠ 0 → (I v 1).toInt + 1 ≤ (I' v 1).toInt) → QI w (cS b I' F' A' E)) : w_X8_advanceTo (some v) (some l) (some q) (cS b I F A E) QI X := by
  have hb := hs.1.1
  have hv := hs.2.2.1
  have hsp := hs.2.2.2.2.2.2.1
  have hl5 := hl.1
  simp only [w_X8_advanceTo, wBit0, wBit1]
  refine wLoop_i (fun n k x => ∃ I1 F1 A1, x = cS b I1 F1 A1 E ∧ ZS b g o s h vv v sp r I1 F1 A1 E N ∧ Mo b g v I I1 F F1 ∧ Rd b g F1 l ∧ I1 l 7 = 0 ∧ I1 sp = I sp ∧ (I v 1).toInt ≤ (I1 v 1).toInt ∧ 0 ≤ k.toInt ∧ n = (3000 - k.toInt).toNat) 3000 ⟨I, F, A, rfl, hs, Mo_rf, hl, h7, rfl, Int.le_refl _, by decide, by decide⟩ ?_
  rintro n k x again ha ⟨I1, F1, A1, rfl, p1, p2, p3, p4, p5, p6, p7, p8⟩
  refine ⟨fun _ => hQ _ _ _ _ (Or.inl rfl) p1 p2 p3 p4 p5 p6 (fun z => absurd rfl z), fun hk => ?_⟩
  have hk4 : k.toInt < 3000 := by simp only [i32, Int32.reduceToInt] at hk; omega
  have ek : (k + 1).toInt = k.toInt + 1 := i_add rfl (by decide) (by omega)
  generalize k + 1 = k1 at ek ⊢
  rw [c_recv hl5]
  refine c_advance hb p1.1.2.1.1 p1.1.2.1.2.1 (KV_RW p1.1) p3 (fun rr I2 F2 z1 z2 z3 z4 z5 z6 => ?_)
  obtain ⟨m, m1, m2, m3⟩ := z6
  rw [c_getI hv, c_recv hl5]
  refine c_take hl5 ?_
  rw [c_putI hv, c_getI hv, up2_self]
  have hvl : v ≠ l := Is_ne hv hl5 (by decide)
  have hspl : sp ≠ l := Is_ne hsp hl5 (by decide)
  have hspv : sp ≠ v := Is_ne hsp hv (by decide)
  have e7 : I2 l 7 = Int32.ofNat m := by rw [m3, p4, Int32.zero_add]
  have ev1 : I2 v 1 = I1 v 1 := by rw [z2 v hvl]
  rw [e7, ev1]
  have em : (Int32.ofNat m).toInt = m := Int32.toInt_ofNat_of_lt (by omega)
  have hr1 := p1.2.2.2.2.2.2.2.2.1
  have es : (I1 v 1 + Int32.ofNat m).toInt = (I1 v 1).toInt + m := i_add rfl em (by omega)
  generalize I1 v 1 + Int32.ofNat m = u at es ⊢
  have o1 : Ol l I1 (up2 I2 l 7 0) := Ol_up2 z2
  have e70 : up2 I2 l 7 0 l 7 = 0 := up2_self _ _ _ _
  generalize up2 I2 l 7 0 = I3 at o1 e70 ⊢
  obtain ⟨y1, y2⟩ := KV_look p1.1 hl5 o1 z3 Ol_rf z4
  obtain ⟨y3, y4⟩ := KV_I (v := u) y1 (y2 p1.2.1) hv (j := 1) (by decide)
  have mo1 : Mo b g v I1 (up2 I3 v 1 u) F1 F2 := Mo_tr (Mo_look p1.1.2.1.1 hl5 o1 z3 z4 (fun _ => e70)) (Mo_I hv (Or.inr rfl))
  have eu : up2 I3 v 1 u v 1 = u := up2_self _ _ _ _
  have esp : up2 I3 v 1 u sp = I sp := by rw [up2_row _ _ _ hspv, o1 sp hspl]; exact p5
  have el7 : up2 I3 v 1 u l 7 = 0 := by rw [up2_a _ _ _ _ (Ne.symm hvl)]; exact e70
  have mo := Mo_tr p2 mo1
  generalize up2 I3 v 1 u = I4 at y3 y4 mo1 eu esp el7 mo ⊢
  refine ⟨fun hle => ?_, fun _ => c_thr y3 y4 hX⟩
  have hu : u.toInt ≤ 50000 := by simp only [i32, Int32.reduceToInt] at hle; exact hle
  have zs : ZS b g o s h vv v sp r I4 F2 A1 E N := ZS_Mo p1 mo1 y3 y4 (by rw [eu]; exact ⟨by omega, hu⟩) (by rw [esp, ← p5]; exact p1.2.2.2.2.2.2.2.2.2)
  refine ⟨fun _ => hQ _ _ _ _ (Or.inl rfl) zs mo z4 el7 esp (by rw [eu]; omega) (fun z => absurd rfl z), fun hn => ?_⟩
  have hm1 := m2 hn
  obtain ⟨f, rfl⟩ := Option.ne_none_iff_exists'.mp hn
  obtain ⟨t', -, ht'⟩ := z1
  have hf := (p1.1.2.1.1.2.2.2 _ _ (ht' f rfl).1).1
  rw [c_recv hv]
  have ht4 : F2 q 3 = some t := by rw [(mo.2.2.1 q hq).2]; exact ht
  refine z_bind zs hq ht4 ht2 hf (fun w A2 hw zs2 => ⟨fun _ => ?_, fun _ => ?_⟩)
  · exact ha (3000 - k1.toInt).toNat _ _ (by omega) ⟨I4, F2, A2, rfl, zs2, mo, z4, el7, esp, by rw [eu]; omega, by omega, rfl⟩
  · exact hQ _ _ _ _ (Or.inr rfl) zs2 mo z4 el7 esp (by rw [eu]; omega) (fun _ => by rw [eu]; omega)
theorem c_copy (hb : CB b) (hv : Is b 8 v) (hsp : Is b 7 sp) {i : Int32} (hi : 0 ≤ i.toInt ∧ i.toInt + 8 ≤ 800) {Z : HS → Prop} (hZ : ∀ A', Ol sp A A' → Z (cS b I F A' E)) : wCopy (cS b I F A E) (some (b.ad v 4)) 0 (some (b.ad sp 0)) i 8 Z := by
  obtain ⟨a1, a2, a3, a4⟩ := c_arr hb hv (j := 4) (by decide)
  obtain ⟨c1, c2, c3, c4⟩ := c_arr hb hsp (j := 0) (by decide)
  refine ⟨_, _, rfl, rfl, fun z => ?_, a2, c2, a3, c3, by decide, by decide, hi.1, ?_, ?_, ?_⟩
  · rw [z, c1] at a1
    have : sp = v := by cases a1
    exact Is_ne hsp hv (by decide) this
  · show _ ≤ ((b.B.n (b.ad v 4) : Nat) : Int)
    rw [a4]
    show (8 : Int) ≤ 8
    omega
  · show _ ≤ ((b.B.n (b.ad sp 0) : Nat) : Int)
    rw [c4]
    show i.toInt + 8 ≤ 800
    exact hi.2
  · have key : ∀ f : Nat → Nat → Int32, (∀ q j, q ≠ b.ad sp 0 → f q j = (cS b I F A E).J q j) → (cS b I F A E).wJ f = cS b I F (fun a j => if a = sp ∧ j = 0 then f (b.ad sp 0) else A a j) E := fun f hf => by
      have : f = cJ b (fun a j => if a = sp ∧ j = 0 then f (b.ad sp 0) else A a j) := by
        funext q j
        unfold cJ
        by_cases hqq : q = b.ad sp 0
        · subst hqq
          rw [c1]
          simp
        · rw [hf q j hqq]
          show cJ b A q j = _
          unfold cJ
          cases ho : b.own q with
          | none => rfl
          | some w =>
            dsimp only
            rw [if_neg]
            rintro ⟨e1, e2⟩
            have := (hb.1 q w.1 w.2 ho).2.2.1
            rw [e1, e2] at this
            exact hqq this.symm
      exact congrArg (fun J => HS.mk b.B.LP b.B.k b.B.n I (cF b F) J (cG b E) b.B.c b.B.z) this
    rw [key _ (fun q j hqq => if_neg (fun z => hqq z.1))]
    exact hZ _ (fun a ha => by funext j; rw [if_neg (fun z => ha z.1)])
end C32
