set_option linter.unusedVariables false
set_option linter.unusedSimpArgs false
/-! one who looks -/
/-- only the thing l has changed -/
def Ol {α : Type} (l : Nat) (f f' : Nat → α) : Prop := ∀ a, a ≠ l → f' a = f a
theorem Ol_rf {α : Type} {l : Nat} {f : Nat → α} : Ol l f f := fun _ _ => rfl
theorem Ol_tr {α : Type} {l : Nat} {f f' f'' : Nat → α} (h : Ol l f f') (h2 : Ol l f' f'') : Ol l f f'' := fun a ha => by rw [h2 a ha, h a ha]
theorem Ol_up2 {α : Type} {l j : Nat} {f f' : Nat → Nat → α} {v : α} (h : Ol l f f') : Ol l f (up2 f' l j v) := fun a ha => by
  rw [← h a ha]; funext j'; exact up2_a _ _ _ _ ha
theorem Ol_up3 {α : Type} {l j i : Nat} {f f' : Nat → Nat → Nat → α} {v : α} (h : Ol l f f') : Ol l f (up3 f' l j i v) := fun a ha => by
  rw [← h a ha]; funext j'; exact up3_ne (fun z => ha z.1)
theorem Ol_eqI {b : CT} {c l : Nat} {I I' : Nat → Nat → Int32} (hl : Is b c l) (h : Ol l I I') (hc : ∀ j, (c, j) ∉ rI) : eqI b I I' := fun ci a j ha hr => by
  rw [h a (fun z => ?_)]
  rw [z] at ha
  rw [← ha.2, hl.2] at hr; exact hc j hr
theorem Ol_eqF {b : CT} {c l : Nat} {I I' : Nat → Nat → Option Nat} (hl : Is b c l) (h : Ol l I I') (hc : ∀ j, (c, j) ∉ rF) : eqF b I I' := fun ci a j ha hr => by
  rw [h a (fun z => ?_)]
  rw [z] at ha
  rw [← ha.2, hl.2] at hr; exact hc j hr
theorem Ol_eqA {b : CT} {c l : Nat} {I I' : Nat → Nat → Nat → Int32} (hl : Is b c l) (h : Ol l I I') (hc : c ≠ 1) : eqA b I I' := fun a ha => by
  rw [h a (Is_ne ha hl (fun z => hc z.symm))]
theorem Ol_eqE {b : CT} {c l : Nat} {I I' : Nat → Nat → Nat → Option Nat} (hl : Is b c l) (h : Ol l I I') (hc : ∀ j, (c, j) ∉ rE) : eqE b I I' := fun ci a j ha hr => by
  rw [h a (fun z => ?_)]
  rw [z] at ha
  rw [← ha.2, hl.2] at hr; exact hc j hr
theorem no_rI {c : Nat} (h : c ∉ [0, 4, 9, 10]) (j : Nat) : (c, j) ∉ rI := by
  intro z
  simp only [rI, List.mem_cons, List.not_mem_nil, or_false, Prod.mk.injEq, not_or] at h z
  omega
theorem no_rF {c : Nat} (h : c ∉ [0, 1, 10]) (j : Nat) : (c, j) ∉ rF := by
  intro z
  simp only [rF, List.mem_cons, List.not_mem_nil, or_false, Prod.mk.injEq, not_or] at h z
  omega
theorem no_rE {c : Nat} (h : c ∉ [1, 4, 9, 10]) (j : Nat) : (c, j) ∉ rE := by
  intro z
  simp only [rE, List.mem_cons, List.not_mem_nil, or_false, Prod.mk.injEq, not_or] at h z
  omega
/-- it can be asked for the next one -/
def Rd (b : CT) (g : Gh) (F : Nat → Nat → Option Nat) (l : Nat) : Prop := Is b 5 l ∧ ∃ t, F l 2 = some t ∧ Is b 10 t ∧ On g F 4 t (F l 5)
section C5
variable {b : CT} {g : Gh} {s : Nat} {I : Nat → Nat → Int32} {F : Nat → Nat → Option Nat} {A : Nat → Nat → Nat → Int32} {E : Nat → Nat → Nat → Option Nat} {XX : Nat → Nat → Prop} {X : String → HS → Prop} {Q : HS → Prop} {QF : Option Nat → HS → Prop}
theorem c_begin (hb : CB b) {l t : Nat} {m tm : Int32} {w : Option Nat} (hl : Is b 5 l) (ht : Is b 10 t) (hw : W4 b w) (hQ : ∀ I' F' A', Ol l I I' → Ol l F F' → Ol l A A' → F' l 2 = some t → F' l 5 = none → I' l 7 = 0 → Q (cS b I' F' A' E)) : w_X5_begin (some l) (some t) m w tm (cS b I F A E) Q X := by
  simp only [w_X5_begin, cw hb, hl, ht, c_allColumns ht]
  refine ⟨by simp, ?_⟩
  generalize hI' : up2 (up2 (up2 (up2 (up2 I l 3 _) l 4 _) l 6 _) l 0 _) l 7 _ = I'
  have hOI : Ol l I I' := by rw [← hI']; exact Ol_up2 (Ol_up2 (Ol_up2 (Ol_up2 (Ol_up2 Ol_rf))))
  generalize hF' : up2 (up2 F l 2 _) l 5 _ = F'
  have hOF : Ol l F F' := by rw [← hF']; exact Ol_up2 (Ol_up2 Ol_rf)
  have i7 : I' l 7 = 0 := by rw [← hI', up2_self]
  have f2 : F' l 2 = some t := by rw [← hF', up2_k _ _ _ _ (by decide), up2_self]
  have f5 : F' l 5 = none := by rw [← hF', up2_self]
  clear hI' hF'
  refine wLoop_i (fun n v x => ∃ A', x = cS b I' F' A' E ∧ Ol l A A' ∧ 0 ≤ v.toInt ∧ n = (4 - v.toInt).toNat) 4 ⟨A, rfl, Ol_rf, by decide, by decide⟩ ?_
  rintro n v x again ha ⟨A', rfl, p0, p1, p2⟩
  refine ⟨fun _ => hQ _ _ _ hOI hOF p0 f2 f5 i7, fun hv => ?_⟩
  have hv4 : v.toInt < 4 := by simp only [i32, Int32.reduceToInt] at hv; omega
  have ev : (v + 1).toInt = v.toInt + 1 := i_add rfl (by decide) (by omega)
  simp only [cw hb, hl]
  refine c_W4 hb hw ⟨p1, by omega⟩ (fun u => ?_)
  simp only [cw hb, hl, show wIn v 4 from ⟨p1, by omega⟩, true_and]
  exact ha _ _ _ (by omega) ⟨_, rfl, Ol_up3 p0, by omega, rfl⟩
theorem c_take {Q : Int32 → HS → Prop} {l : Nat} (hl : Is b 5 l) (hQ : Q (I l 7) (cS b (up2 I l 7 0) F A E)) : w_X5_takeLookedAt (some l) (cS b I F A E) Q X := by
  simp only [w_X5_takeLookedAt, c_getI hl, c_putI hl]
  exact hQ
theorem ofN_succ (m : Nat) : Int32.ofNat (m + 1) = Int32.ofNat m + 1 := by rw [Int32.ofNat_add]; rfl
/-- how many are left in a lane -/
def RW (g : Gh) (F : Nat → Nat → Option Nat) (E : Nat → Nat → Nat → Option Nat) : Prop := ∀ w, ∃ C : Option Nat → Nat, (∀ p, C p ≤ 3000) ∧ ∀ f t, On g F w t (some f) → C (E f 1 w) + 1 ≤ C (some f)
theorem VC_lane (hV : VC g F E (fun _ _ => False)) {t f : Nat} {v : Int32} (hv : v = 4 ∨ wIn v 4 ∧ E t 3 (ix v) ≠ none) (h1 : g.V 4 f) (h2 : F f 2 = some t) : g.V (ix v) f := by
  rcases hv with rfl | ⟨hv, hne⟩
  · exact h1
  · exact (hV.2 (ix v) f t (ix_lt hv) h1 h2 (fun z => z)).mp hne
theorem c_advance (hb : CB b) (hL : LO b g I F E) (hV : VC g F E (fun _ _ => False)) (hC : RW g F E) {l : Nat} (hR : Rd b g F l) (hQ : ∀ r I' F', (∃ t, F l 2 = some t ∧ On g F 4 t r) → Ol l I I' → Ol l F F' → Rd b g F' l → F' l 2 = F l 2 → (∃ m : Nat, m ≤ 3000 ∧ (r ≠ none → 1 ≤ m) ∧ I' l 7 = I l 7 + Int32.ofNat m) → QF r (cS b I' F' A E)) : w_X5_advance (some l) (cS b I F A E) QF X := by
  obtain ⟨hl, t, h2, ht, h5⟩ := id hR
  have hq0 : ∀ I' (m : Nat), Ol l I I' → m ≤ 3000 → I' l 7 = I l 7 + Int32.ofNat m → QF none (cS b I' F A E) := fun I' m h hm he => hQ none I' F ⟨t, h2, fun f hf => absurd hf (by simp)⟩ h Ol_rf hR rfl ⟨m, hm, fun z => absurd rfl z, he⟩
  simp only [w_X5_advance, cw hb, hl]
  refine wJoin_i (fun K => K (cS b I F A E)) (hq0 _ 0 Ol_rf (by omega) (Int32.add_zero _).symm) (fun K hK => ⟨fun _ => ?_, fun _ => hK⟩)
  simp only [cw hb, hl, h2, ht]
  refine ⟨fun _ => hK, fun _ => c_laneFor hb hL ht (fun v hv => ?_)⟩
  have hv5 : wIn v 5 := by
    rcases hv with rfl | ⟨hv, -⟩
    · exact ⟨by decide, by decide⟩
    · exact ⟨hv.1, by have := hv.2; omega⟩
  simp only [cw hb, hl]
  refine wJoin_i (fun K => ∀ r, On g F (ix v) t r → K r (cS b I F A E)) (fun r hr => ?_) (fun K hK2 => ⟨fun hn => ?_, fun hn => ?_⟩)
  · obtain ⟨C, hC1, hC2⟩ := hC (ix v)
    refine wLoop_i (fun n p x => ∃ I', x = cS b I' F A E ∧ Ol l I I' ∧ On g F (ix v) t p ∧ n = rk g (ix v) p ∧ ∃ m : Nat, m + C p ≤ 3000 ∧ I' l 7 = I l 7 + Int32.ofNat m) _ ⟨I, rfl, Ol_rf, hr, rfl, 0, by have := hC1 r; omega, (Int32.add_zero _).symm⟩ ?_
    rintro n p x again ha ⟨I', rfl, p0, p1, p2, m, pm, pe⟩
    refine ⟨fun _ => ?_, fun hp => ?_⟩
    · simp only [cw hb, hl]
      exact ⟨by simp, hq0 _ m (Ol_up2 p0) (by omega) (by rw [up2_k _ _ _ _ (by decide)]; exact pe)⟩
    · obtain ⟨f, rfl⟩ := Option.ne_none_iff_exists'.mp hp
      obtain ⟨s1, s2, s3⟩ := On_step hL p1
      obtain ⟨v1, v2⟩ := p1 f rfl
      simp only [cw hb, hl, s1]
      have hst := hC2 f t p1
      have hm1 : I' l 7 + 1 = I l 7 + Int32.ofNat (m + 1) := by rw [pe, ofN_succ, Int32.add_assoc]
      have hgo : again (E f 1 (ix v)) (cS b (up2 I' l 7 (I' l 7 + 1)) F A E) := ha _ _ _ (by omega) ⟨_, rfl, Ol_up2 p0, s2, rfl, m + 1, by omega, by rw [up2_self]; exact hm1⟩
      refine c_isThere s1 (fun r1 _ => ?_)
      refine wJoin_i (fun K => K (cS b (up2 I' l 7 (I' l 7 + 1)) F A E)) ?_ (fun K hK3 => ⟨fun _ => hK3, fun _ => ?_⟩)
      · simp only [cw hb, s1]; exact ⟨hv5, hgo⟩
      · simp only [cw hb, hl, s1]
        refine c_fits hb s1 ⟨5, l, 1, rfl, hl, by decide, by decide⟩ (fun r2 _ => ⟨fun _ => hK3, fun _ => ?_⟩)
        simp only [cw hb, hl]
        have h4 : g.V 4 f := (hV.1 _ _ v1).1
        refine hQ _ _ _ ⟨t, h2, fun f' hf' => by cases hf'; exact ⟨h4, v2⟩⟩ (Ol_up2 (Ol_up2 p0)) (Ol_up2 Ol_rf) ?_ (up2_k _ _ _ _ (by decide)) ⟨m + 1, by omega, fun _ => by omega, by rw [up2_k _ _ _ _ (by decide), up2_self]; exact hm1⟩
        refine ⟨hl, t, by rw [up2_k _ _ _ _ (by decide)]; exact h2, ht, fun f' hf' => ?_⟩
        rw [up2_self] at hf'
        cases hf'
        exact ⟨h4, by rw [up2_a _ _ _ _ (Is_ne s1 hl (by decide))]; exact v2⟩
  · simp only [cw hb, hl, h2, ht]
    exact c_firstIn hb hL ⟨5, l, 1, rfl, hl, by decide, by decide⟩ ht hv (fun r hr => hK2 r hr)
  · obtain ⟨f, hf⟩ := Option.ne_none_iff_exists'.mp hn
    obtain ⟨v1, v2⟩ := h5 f hf
    have v3 : On g F (ix v) t (some f) := fun f' hf' => by cases hf'; exact ⟨VC_lane hV hv v1 v2, v2⟩
    obtain ⟨s1, s2, s3⟩ := On_step hL v3
    simp only [cw hb, hl, hf, s1]
    exact ⟨hv5, hK2 _ s2⟩
end C5
