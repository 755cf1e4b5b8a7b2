set_option linter.unusedVariables false
set_option linter.unusedSimpArgs false
/-! READING A QUESTION -/
def RS (b : CT) (o s r : Nat) (I : Nat → Nat → Int32) (F : Nat → Nat → Option Nat) : Prop := Is b 6 r ∧ F r 4 = some (b.ad o 0) ∧ F r 7 = some s ∧ 0 ≤ (I r 6).toInt ∧ (I r 6).toInt ≤ (I r 5).toInt ∧ (I r 5).toInt ≤ 400
def KRs (b : CT) (g : Gh) (o s h : Nat) (vv : Nat → Int32) (r : Nat) (I : Nat → Nat → Int32) (F : Nat → Nat → Option Nat) (A : Nat → Nat → Nat → Int32) (E : Nat → Nat → Nat → Option Nat) (N : Nat) : Prop := KV b g o s h vv I F A E (N + 1) NW ∧ HZ h I ∧ RS b o s r I F
section C28
variable {b : CT} {g : Gh} {o s h N r : Nat} {vv vv' : Nat → Int32} {x : HS} {I I' : Nat → Nat → Int32} {F F' : Nat → Nat → Option Nat} {A A' : Nat → Nat → Nat → Int32} {E : Nat → Nat → Nat → Option Nat} {W : Nat → Prop} {X : String → HS → Prop} {Q : HS → Prop} {QI : Int32 → HS → Prop} {QF : Option Nat → HS → Prop}
theorem no6 (j : Nat) : (6, j) ∉ rI2 := fun z => by simp only [rI2, rI3, List.mem_cons, List.not_mem_nil, or_false, Prod.mk.injEq] at z; omega
theorem KS_j (hs : KRs b g o s h vv r I F A E N) {j : Nat} {v : Int32} (hj : j ≠ 5 ∧ j ≠ 6) : KRs b g o s h vv r (up2 I r j v) F A E N := by
  obtain ⟨h1, h2, h3, h4, h5, h6, h7, h8⟩ := hs
  obtain ⟨z1, z2⟩ := KV_I (v := v) h1 h2 h3 (no6 j)
  refine ⟨z1, z2, h3, h4, h5, ?_⟩
  rw [up2_k _ _ _ _ (fun z => hj.1 z.symm), up2_k _ _ _ _ (fun z => hj.2 z.symm)]; exact ⟨h6, h7, h8⟩
theorem KS_6 (hs : KRs b g o s h vv r I F A E N) (hlt : (I r 6).toInt < (I r 5).toInt) : KRs b g o s h vv r (up2 I r 6 (I r 6 + 1)) F A E N ∧ (I r 6 + 1).toInt = (I r 6).toInt + 1 := by
  obtain ⟨h1, h2, h3, h4, h5, h6, h7, h8⟩ := hs
  obtain ⟨z1, z2⟩ := KV_I (v := I r 6 + 1) h1 h2 h3 (no6 6)
  have e : (I r 6 + 1).toInt = (I r 6).toInt + 1 := i_add rfl (by decide) (by omega)
  refine ⟨⟨z1, z2, h3, h4, h5, ?_⟩, e⟩
  rw [up2_self, up2_k _ _ _ _ (by decide), e]; exact ⟨by omega, by omega, h8⟩
theorem r_here (hs : KRs b g o s h vv r I F A E N) (hQ : ∀ v : Int32, (v = -1 ∨ (I r 6).toInt < (I r 5).toInt) → QI v (cS b I F A E)) : w_X6_here (some r) (cS b I F A E) QI X := by
  obtain ⟨h1, h2, h3, h4, h5, h6, h7, h8⟩ := hs
  have hb := h1.1
  have s1 := h1.2.2.1.1
  simp only [w_X6_here, cw hb, h3, h4, c_len hb s1 (show oF 11 0 = 21 by decide) (by decide), s1, wJoin, wIf]
  refine ⟨fun _ => hQ _ (Or.inl rfl), fun q1 => ⟨fun _ => hQ _ (Or.inl rfl), fun q2 => ⟨fun q3 => ⟨⟨h6, by simp only [i32] at q2; omega⟩, hQ _ (Or.inr ?_)⟩, fun _ => hQ _ (Or.inl rfl)⟩⟩⟩
  simp only [i32] at q2; omega
theorem r_skip1 (hs : KRs b g o s h vv r I F A E N) (hQ : ∀ I', KRs b g o s h vv r I' F A E N → Ol r I I' → I' r 1 = I r 1 → Q (cS b I' F A E)) : w_X6_skipBlanks (some r) (cS b I F A E) Q X := by
  have h3 := hs.2.2.1
  have hb := hs.1.1
  simp only [w_X6_skipBlanks]
  refine wLoop_i (fun n _ x => ∃ I1, x = cS b I1 F A E ∧ KRs b g o s h vv r I1 F A E N ∧ (Ol r I I1 ∧ I1 r 1 = I r 1) ∧ n = ((I1 r 5).toInt - (I1 r 6).toInt).toNat) _ ⟨I, rfl, hs, ⟨Ol_rf, rfl⟩, rfl⟩ ?_
  rintro n _ x again ha ⟨I1, rfl, p1, p2, p3⟩
  simp only [cw hb, h3, wJoin, wIf]
  refine ⟨fun _ => hQ _ p1 p2.1 p2.2, fun q1 => ?_⟩
  refine r_here p1 (fun v hv => ⟨fun q2 => ?_, fun _ => hQ _ p1 p2.1 p2.2⟩)
  have hlt : (I1 r 6).toInt < (I1 r 5).toInt := by simp only [i32] at q1; omega
  simp only [cw hb, h3]
  obtain ⟨z1, z2⟩ := KS_6 p1 hlt
  refine ha _ _ _ ?_ ⟨_, rfl, z1, ⟨Ol_up2 p2.1, by rw [up2_k _ _ _ _ (by decide)]; exact p2.2⟩, rfl⟩
  rw [up2_self, up2_k _ _ _ _ (by decide), z2]; omega
theorem r_skip (hs : KRs b g o s h vv r I F A E N) (hQ : ∀ I', KRs b g o s h vv r I' F A E N → Ol r I I' → Q (cS b I' F A E)) : w_X6_skipBlanks (some r) (cS b I F A E) Q X := r_skip1 hs (fun I' z1 z2 _ => hQ I' z1 z2)
theorem r_refuse (hs : KRs b g o s h vv r I F A E N) {v : Int32} (hX : ∀ x', KInv o N vv x' → X eUO x') : w_X6_refuse (some r) v (cS b I F A E) Q X := by
  simp only [w_X6_refuse, c_putI hs.2.2.1]
  have := KS_j (j := 3) (v := v) hs (by omega)
  exact c_thr this.1 this.2.1 hX
theorem r_take (hs : KRs b g o s h vv r I F A E N) {due : Int32} (hd : due ≠ -1) (hX : ∀ x', KInv o N vv x' → X eUO x') (hQ : ∀ I', KRs b g o s h vv r I' F A E N → Ol r I I' → Q (cS b I' F A E)) : w_X6_take (some r) due (cS b I F A E) Q X := by
  have h3 := hs.2.2.1
  have hb := hs.1.1
  simp only [w_X6_take]
  rw [c_recv h3]
  refine r_here hs (fun v hv => ?_)
  simp only [cw hb, h3, wJoin, wIf]
  refine ⟨fun q => ?_, fun _ => r_refuse hs hX⟩
  obtain ⟨z1, z2⟩ := KS_6 hs (hv.resolve_left (fun z => hd (by rw [← q, z])))
  exact hQ _ z1 (Ol_up2 Ol_rf)
theorem r_digits (hs : KRs b g o s h vv r I F A E N) (hQ : ∀ v I', KRs b g o s h vv r I' F A E N → Ol r I I' → QI v (cS b I' F A E)) : w_X6_readDigits (some r) (cS b I F A E) QI X := by
  have h3 := hs.2.2.1
  have h4 := hs.2.2.2.1
  have hb := hs.1.1
  have s1 := hs.1.2.2.1.1
  simp only [w_X6_readDigits]
  refine wLoop_i (fun n _ x => ∃ I1, x = cS b I1 F A E ∧ KRs b g o s h vv r I1 F A E N ∧ Ol r I I1 ∧ n = ((I1 r 5).toInt - (I1 r 6).toInt).toNat) _ ⟨I, rfl, hs, Ol_rf, rfl⟩ ?_
  rintro n w x again ha ⟨I1, rfl, p1, p2, p3⟩
  simp only [cw hb, h3, h4, s1, wJoin, wIf]
  refine ⟨fun _ => hQ _ _ p1 p2, fun q1 => ?_⟩
  have hlt : (I1 r 6).toInt < (I1 r 5).toInt := by simp only [i32] at q1; omega
  obtain ⟨-, -, -, -, -, g6, g7, g8⟩ := id p1
  have hin : wIn (I1 r 6) 400 := ⟨g6, by omega⟩
  refine ⟨hin, fun _ => hQ _ _ p1 p2, fun _ => ⟨hin, fun _ => hQ _ _ p1 p2, fun _ => ⟨hin, ?_⟩⟩⟩
  obtain ⟨z1, z2⟩ := KS_6 p1 hlt
  refine ha _ _ _ ?_ ⟨_, rfl, z1, Ol_up2 p2, rfl⟩
  rw [up2_self, up2_k _ _ _ _ (by decide), z2]; omega
theorem r_number (hs : KRs b g o s h vv r I F A E N) (hX : ∀ x', KInv o N vv x' → X eUO x') (hQ : ∀ v I', KRs b g o s h vv r I' F A E N → Ol r I I' → QI v (cS b I' F A E)) : w_X6_readNumber (some r) (cS b I F A E) QI X := by
  have h3 := hs.2.2.1
  have hb := hs.1.1
  simp only [w_X6_readNumber, cw hb, h3]
  refine r_here hs (fun v hv => ?_)
  refine wJoin_i (fun K => ∀ w, (w = 0 ∨ (I r 6).toInt < (I r 5).toInt) → K w (cS b I F A E)) (fun w hw => ?_) (fun K hK => ⟨fun q => hK 1 (Or.inr (hv.resolve_left (fun z => by rw [z] at q; exact absurd q (by decide)))), fun _ => hK 0 (Or.inl rfl)⟩)
  refine wJoin_i (fun K => ∀ I1, KRs b g o s h vv r I1 F A E N → Ol r I I1 → K (cS b I1 F A E)) (fun I1 p1 p2 => ?_) (fun K hK => ⟨fun _ => hK _ hs Ol_rf, fun q => ?_⟩)
  · simp only [cw hb, h3]
    refine r_digits p1 (fun d I2 q1 q2 => ?_)
    have ok := Ol_tr p2 q2
    simp only [cw hb, h3]
    refine wJoin_i (fun K => K (cS b I2 F A E)) ?_ (fun K hK => ?_)
    · simp only [wJoin, wIf]
      exact ⟨fun _ => hQ _ _ q1 ok, fun _ => hQ _ _ q1 ok⟩
    · refine wJoin_i (fun K => K (cS b I2 F A E)) ?_ (fun K2 hK2 => ⟨fun _ => hK2, fun _ => ⟨fun _ => hK, fun _ => hK2⟩⟩)
      simp only [cw hb, h3]
      exact r_refuse q1 hX
  · simp only [cw hb, h3]
    obtain ⟨z1, z2⟩ := KS_6 hs (hw.resolve_left q)
    exact hK _ z1 (Ol_up2 Ol_rf)
theorem r_table (hs : KRs b g o s h vv r I F A E N) (hX : ∀ x', KInv o N vv x' → X eUO x') (hQ : ∀ t I', Is b 10 t → KRs b g o s h vv r I' F A E N → Ol r I I' → QF (some t) (cS b I' F A E)) : w_X6_readTable (some r) (cS b I F A E) QF X := by
  have h3 := hs.2.2.1
  have h5 := hs.2.2.2.2.1
  have hb := hs.1.1
  have s3 := hs.1.2.2.1.2.2.1
  simp only [w_X6_readTable, cw hb, h3]
  refine r_take hs (by decide) hX (fun I1 p1 p2 => ?_)
  simp only [cw hb, h3]
  refine r_digits p1 (fun d I2 q1 q2 => ?_)
  have ok := Ol_tr p2 q2
  simp only [cw hb, h3]
  refine wJoin_i (fun K => K (cS b I2 F A E)) ?_ (fun K hK => ?_)
  · simp only [cw hb, h3, h5, s3]
    refine c_tableAt q1.1 (fun t ht => ?_)
    simp only [wJoin, wIf, cw hb, h3]
    refine ⟨fun _ => r_refuse q1 hX, fun hn => ?_⟩
    obtain ⟨t, rfl⟩ := Option.ne_none_iff_exists'.mp hn
    exact hQ t _ (ht t rfl) q1 ok
  · refine wJoin_i (fun K => K (cS b I2 F A E)) ?_ (fun K2 hK2 => ⟨fun _ => hK2, fun _ => ⟨fun _ => hK, fun _ => hK2⟩⟩)
    simp only [cw hb, h3]
    exact r_refuse q1 hX
theorem r_sign (hs : KRs b g o s h vv r I F A E N) {l1 l2 l3 : Int32} (hl : l1 ≠ -1 ∧ l2 ≠ -1 ∧ l3 ≠ -1) (hX : ∀ x', KInv o N vv x' → X eUO x') (hQ : ∀ v I', (v = l1 ∨ v = l2 ∨ v = l3) → KRs b g o s h vv r I' F A E N → Ol r I I' → QI v (cS b I' F A E)) : w_X6_readSign (some r) l1 l2 l3 (cS b I F A E) QI X := by
  have h3 := hs.2.2.1
  have hb := hs.1.1
  simp only [w_X6_readSign]
  rw [c_recv h3]
  refine r_here hs (fun v hv => ?_)
  have go : (v = l1 ∨ v = l2 ∨ v = l3) → QI v (cS b (up2 I r 6 (I r 6 + 1)) F A E) := fun hq => by
    obtain ⟨z1, z2⟩ := KS_6 hs (hv.resolve_left (fun z => by rcases hq with hq | hq | hq <;> rw [z] at hq <;> exact absurd hq.symm (by first | exact hl.1 | exact hl.2.1 | exact hl.2.2)))
    exact hQ v _ hq z1 (Ol_up2 Ol_rf)
  simp only [cw hb, h3, wJoin, wIf]
  exact ⟨fun q => go (Or.inl q), fun _ => ⟨fun q => go (Or.inr (Or.inl q)), fun _ => ⟨fun q => go (Or.inr (Or.inr q)), fun _ => r_refuse hs hX⟩⟩⟩
theorem r_tooMuch (hs : KRs b g o s h vv r I F A E N) (hX : ∀ x', KInv o N vv x' → X eUO x') (hQ : Q (cS b I F A E)) : w_X6_refuseArgTooMuch (some r) (cS b I F A E) Q X := by
  have h3 := hs.2.2.1
  have hb := hs.1.1
  simp only [w_X6_refuseArgTooMuch]
  rw [c_recv h3]
  refine r_here hs (fun v hv => ?_)
  simp only [cw hb, h3, wJoin, wIf]
  refine ⟨fun q => ?_, fun _ => hQ⟩
  obtain ⟨z1, z2⟩ := KS_6 hs (hv.resolve_left (fun z => by rw [z] at q; exact absurd q (by decide)))
  refine r_skip z1 (fun I2 q1 q2 => ?_)
  simp only [cw hb, h3]
  exact r_refuse q1 hX
end C28
