set_option linter.unusedVariables false
set_option linter.unusedSimpArgs false
/-! the class: place, placeAfter -/
section VD1
variable {b : CT} {I : Nat → Nat → Int32} {F : Nat → Nat → Option Nat} {A : Nat → Nat → Nat → Int32} {E : Nat → Nat → Nat → Option Nat} {o t n n' k f c p x : Nat} {tn : Int32} {co : Nat → Int32} {d r ct : Nat → Nat} {L : Nat → List Nat} {X X' : String → HS → Prop} {Q Q' : HS → Prop} {QI QI' : Int32 → HS → Prop} {QF QF' : Option Nat → HS → Prop}
def ptW (w : Int32) (f : Nat) (M : List Nat) : List Nat := if w = 0 then M ++ [f] else f :: M
theorem qc_placeIn {w : Int32} (hb : CB b) (hH : CH1 b I F E L) (hc : Is b 0 c) (hf : Is b 1 f) (hm : ∀ q, q ∈ L c → Is b 1 q) (hn : (L c).Nodup) (hfn : ∀ c', Is b 0 c' → ix (I c' 0) = ix (I c 0) → f ∉ L c') (hd : ∀ c', Is b 0 c' → c' ≠ c → ix (I c' 0) = ix (I c 0) → ∀ q, q ∈ L c → q ∉ L c')
    (hQ : ∀ F' E', PuE b c (ix (I c 0)) F F' E E' → (∀ q, q ≠ f → q ∉ L c → E' q = E q) → CH1 b I F' E' (va_up L c (ptW w f (L c))) → Q (cS b I F' A E') → Q' (cS b I F' A E')) : w_X10_placeIn (some c) (some f) w (cS b I F A E) Q X → w_X10_placeIn (some c) (some f) w (cS b I F A E) Q' X' := by
  unfold w_X10_placeIn
  dsimp only [wJoin]
  refine qv_if (fun z => ?_) (fun z => ?_)
  · refine qc_recv (fun _ => ?_)
    refine qc_putBehind hb hH hc hf hm hn hfn hd (fun F' E' h1 h2 h3 => hQ F' E' h1 h2 ?_)
    unfold ptW; rw [if_pos z]; exact h3
  · refine qc_recv (fun _ => ?_)
    refine qc_putAhead hb hH hc hf hfn (fun F' E' h1 h2 h3 => hQ F' E' h1 h2 ?_)
    unfold ptW; rw [if_neg z]; exact h3
/-- what must hold for placing f in the table t -/
def PlP (b : CT) (tn : Int32) (co : Nat → Int32) (d r ct : Nat → Nat) (L : Nat → List Nat) (t f : Nat) (I : Nat → Nat → Int32) (F : Nat → Nat → Option Nat) (E : Nat → Nat → Nat → Option Nat) : Prop :=
  CB b ∧ CH1 b I F E L ∧ CH2 b tn d r ct I E ∧ CH3 b tn co d ct I F E ∧ (∀ t : Nat, (t : Int) < tn.toInt → Is b 10 (d t)) ∧ (t : Int) < tn.toInt ∧ I (d t) 1 = co t ∧ (0 ≤ (co t).toInt ∧ (co t).toInt ≤ 4) ∧ (F (d t) 2 = some (r t) ∧ Is b 0 (r t) ∧ I (r t) 0 = 4 ∧ ct (r t) = t) ∧ Is b 1 f ∧ (∀ c, Is b 0 c → f ∉ L c) ∧ (∀ c, Is b 0 c → (L c).Nodup ∧ ∀ q, q ∈ L c → Is b 1 q) ∧ ∀ c c', Is b 0 c → Is b 0 c' → c ≠ c' → ix (I c 0) = ix (I c' 0) → ∀ q, q ∈ L c → q ∉ L c'
theorem Pl_row {pt : List Nat → List Nat} (h : PlP b tn co d r ct L t f I F E) {F1 : Nat → Nat → Option Nat} {E1 : Nat → Nat → Nat → Option Nat} (p1 : PuE b (r t) 4 F F1 E E1) (p1' : ∀ q, q ≠ f → q ∉ L (r t) → E1 q = E q) (p2 : CH1 b I F1 E1 (va_up L (r t) (pt (L (r t))))) : PlI f t pt A tn co d r b I F E ct L 0 b I F1 E1 ct (va_up L (r t) (pt (L (r t)))) := by
  obtain ⟨hb, h1, h2, h3, hd, ht, hco, hc4, ⟨r1, r2, r3, r4⟩, hf, hfn, hLm, hdj⟩ := h
  have r5 : ix (I (r t) 0) = 4 := by rw [r3]; decide
  refine ⟨hb, PuE_Fr r2 p1, p2, CH2_Pu hd h2 p1, CH3_Pu hd h3 p1, fun _ _ => rfl, fun c hc => ?_, fun c hc hn => absurd hc hn, fun k hk => absurd hk (by omega), fun q hq hqn hqf => p1' q hqf (hqn _ r2)⟩
  by_cases e : c = r t
  · subst e
    rw [va_up_self, if_pos ⟨r4, Or.inl r5⟩]
  · rw [va_up_ne _ _ e, if_neg]
    rintro ⟨y1, y2 | y2⟩
    · exact e (by rw [(h2.1 c hc).2.2.1 y2, y1])
    · omega
theorem qc_place {w : Int32} (h : PlP b tn co d r ct L t f I F E)
    (hQ : ∀ b' I' F' E' ct' L', PlI f t (ptW w f) A tn co d r b I F E ct L 4 b' I' F' E' ct' L' → Q (cS b' I' F' A E') → Q' (cS b' I' F' A E')) : w_X10_place (some (d t)) (some f) w (cS b I F A E) Q X → w_X10_place (some (d t)) (some f) w (cS b I F A E) Q' X' := by
  obtain ⟨hb, h1, h2, h3, hd, ht, hco, hc4, ⟨r1, r2, r3, r4⟩, hf, hfn, hLm, hdj⟩ := id h
  have r5 : ix (I (r t) 0) = 4 := by rw [r3]; decide
  unfold w_X10_place
  refine qc_getF hb (by decide) (fun _ => ?_)
  rw [r1]
  refine qc_placeIn hb h1 r2 hf (hLm _ r2).2 (hLm _ r2).1 (fun c' hc' _ => hfn c' hc') (fun c' hc' hne hl => hdj (r t) c' r2 hc' (fun z => hne z.symm) hl.symm) (fun F1 E1 p1 p1' p2 => ?_)
  rw [r5] at p1
  refine qc_lanes (PUT := fun c x Q X => w_X10_placeIn c (some f) w x Q X) (pt := ptW w f) (CND := fun _ => True) (fun b I F E L c Q Q' a1 a2 a3 a4 _ a5 a6 a7 a8 a9 => qc_placeIn a1 a2 a3 a4 a5 a6 a7 a8 a9) hd ht hco hc4.2 hf hfn hLm hdj (fun _ _ _ _ => trivial) (Or.inr trivial) (fun k hk hne => ?_) hc4.1 (fun M q hq => ?_) (Pl_row h p1 p1' p2) hQ
  · obtain ⟨x, hx⟩ := Option.ne_none_iff_exists'.mp hne
    exact (h3.1 t k x ht hk hx).2.2.1
  · unfold ptW at hq
    split at hq
    · rcases List.mem_append.mp hq with z | z
      · exact Or.inr z
      · exact Or.inl (List.mem_singleton.mp z)
    · exact List.mem_cons.mp hq
theorem insA_mem {p f q : Nat} : ∀ {M : List Nat}, q ∈ insA p f M → q = f ∨ q ∈ M
  | [], h => Or.inr h
  | x :: M, h => by
      unfold insA at h
      split at h
      · rcases List.mem_cons.mp h with z | z
        · exact Or.inr (by rw [z]; exact List.mem_cons_self)
        · rcases List.mem_cons.mp z with z | z
          · exact Or.inl z
          · exact Or.inr (List.mem_cons_of_mem _ z)
      · rcases List.mem_cons.mp h with z | z
        · exact Or.inr (by rw [z]; exact List.mem_cons_self)
        · exact (insA_mem z).imp id (fun y => List.mem_cons_of_mem _ y)
theorem qc_putIns (hb : CB b) (hH : CH1 b I F E L) (hc : Is b 0 c) (hf : Is b 1 f) (hpc : p ∈ L c) (hm : ∀ q, q ∈ L c → Is b 1 q) (hn : (L c).Nodup) (hfn : ∀ c', Is b 0 c' → ix (I c' 0) = ix (I c 0) → f ∉ L c') (hd : ∀ c', Is b 0 c' → c' ≠ c → ix (I c' 0) = ix (I c 0) → ∀ q, q ∈ L c → q ∉ L c')
    (hQ : ∀ F' E', PuE b c (ix (I c 0)) F F' E E' → (∀ q, q ≠ f → q ∉ L c → E' q = E q) → CH1 b I F' E' (va_up L c (insA p f (L c))) → Q (cS b I F' A E') → Q' (cS b I F' A E')) : w_X0_putAfter (some c) (some f) (some p) (cS b I F A E) Q X → w_X0_putAfter (some c) (some f) (some p) (cS b I F A E) Q' X' := by
  obtain ⟨L1, L2, e, hp1⟩ := mem_split hpc
  refine qc_putAfter hb hH hc hf (hm p hpc) e hn hfn (fun c' h1 h2 h3 => hd c' h1 h2 h3 p hpc) (fun F' E' h1 h2 h3 => hQ F' E' h1 h2 ?_)
  rw [e, insA_eq hp1]; exact h3
theorem qc_placeAfter (h : PlP b tn co d r ct L t f I F E) (hp : ∀ c, Is b 0 c → ct c = t → (ix (I c 0) = 4 ∨ I c 1 = A f 0 (ix (I c 0))) → p ∈ L c) (hex : ∀ k, k < 4 → E (d t) 3 k ≠ none → ∃ c, Is b 0 c ∧ ct c = t ∧ ix (I c 0) = k ∧ I c 1 = A f 0 k)
    (hQ : ∀ b' I' F' E' ct' L', PlI f t (insA p f) A tn co d r b I F E ct L 4 b' I' F' E' ct' L' → Q (cS b' I' F' A E') → Q' (cS b' I' F' A E')) : w_X10_placeAfter (some (d t)) (some f) (some p) (cS b I F A E) Q X → w_X10_placeAfter (some (d t)) (some f) (some p) (cS b I F A E) Q' X' := by
  obtain ⟨hb, h1, h2, h3, hd, ht, hco, hc4, ⟨r1, r2, r3, r4⟩, hf, hfn, hLm, hdj⟩ := id h
  have r5 : ix (I (r t) 0) = 4 := by rw [r3]; decide
  unfold w_X10_placeAfter
  refine qc_getF hb (by decide) (fun _ => ?_)
  rw [r1]
  refine qc_recv (fun _ => ?_)
  refine qc_putIns hb h1 r2 hf (hp _ r2 r4 (Or.inl r5)) (hLm _ r2).2 (hLm _ r2).1 (fun c' hc' _ => hfn c' hc') (fun c' hc' hne hl => hdj (r t) c' r2 hc' (fun z => hne z.symm) hl.symm) (fun F1 E1 p1 p1' p2 => ?_)
  rw [r5] at p1
  refine qc_lanes (PUT := fun c x Q X => wRecv x 0 c (w_X0_putAfter c (some f) (some p) x Q X)) (pt := insA p f) (CND := fun M => p ∈ M) (fun b I F E L c Q Q' a1 a2 a3 a4 a0 a5 a6 a7 a8 a9 => qc_recv (fun _ => qc_putIns a1 a2 a3 a4 a0 a5 a6 a7 a8 a9)) hd ht hco hc4.2 hf hfn hLm hdj (fun c hc e1 e2 => hp c hc e1 (Or.inr e2)) (Or.inl hex) (fun k hk hne => ?_) hc4.1 (fun M q hq => insA_mem hq) (Pl_row h p1 p1' p2) hQ
  obtain ⟨x, hx⟩ := Option.ne_none_iff_exists'.mp hne
  exact (h3.1 t k x ht hk hx).2.2.1
end VD1
