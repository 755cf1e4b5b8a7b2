set_option linter.unusedVariables false
set_option linter.unusedSimpArgs false
/-! the class: what it stands for -/
/-- a table's list in a lane: its row (4), or who has this value in the column -/
def rowL (a : AS) (t l : Nat) (v : Int32) : List Nat := if l = 4 then a.rw t else (a.rw t).filter fun n => a.fc n l == v
/-- the chain c, in the lane l, is the list L -/
def ChL (F : Nat → Nat → Option Nat) (E : Nat → Nat → Nat → Option Nat) (l c : Nat) (L : List Nat) : Prop := LnO (fun q => E q 1 l) (F c 3) L ∧ F c 4 = L.getLast?
/-- all chains are what L says -/
def CH1 (b : CT) (I : Nat → Nat → Int32) (F : Nat → Nat → Option Nat) (E : Nat → Nat → Nat → Option Nat) (L : Nat → List Nat) : Prop := ∀ c, Is b 0 c → ChL F E (ix (I c 0)) c (L c)
/-- each chain stands for one lane and one value of one table -/
def CH2 (b : CT) (tn : Int32) (d r ct : Nat → Nat) (I : Nat → Nat → Int32) (E : Nat → Nat → Nat → Option Nat) : Prop := (∀ c, Is b 0 c → (ct c : Int) < tn.toInt ∧ wIn (I c 0) 5 ∧ (ix (I c 0) = 4 → c = r (ct c)) ∧ (ix (I c 0) < 4 → E (d (ct c)) 3 (ix (I c 0)) ≠ none)) ∧ ∀ c c', Is b 0 c → Is b 0 c' → ct c = ct c' → ix (I c 0) = ix (I c' 0) → I c 1 = I c' 1 → c = c'
/-- the bucket i of the index x, for the lane k of the table t -/
def Bkt (b : CT) (t k x i : Nat) (ct : Nat → Nat) (I : Nat → Nat → Int32) (F : Nat → Nat → Option Nat) (E : Nat → Nat → Nat → Option Nat) : Prop := ∃ C, LnO (fun c => F c 2) (E x 1 i) C ∧ ∀ c, c ∈ C ↔ (Is b 0 c ∧ ct c = t ∧ ix (I c 0) = k ∧ ix (I c 1 &&& 63) = i)
def CH3 (b : CT) (tn : Int32) (co : Nat → Int32) (d ct : Nat → Nat) (I : Nat → Nat → Int32) (F : Nat → Nat → Option Nat) (E : Nat → Nat → Nat → Option Nat) : Prop := (∀ (t k x : Nat), (t : Int) < tn.toInt → k < 4 → E (d t) 3 k = some x → Is b 4 x ∧ (I x 0).toInt = (k : Int) ∧ (k : Int) < (co t).toInt ∧ ∀ i, i < 64 → Bkt b t k x i ct I F E) ∧ ∀ (t t' k k' x : Nat), (t : Int) < tn.toInt → (t' : Int) < tn.toInt → k < 4 → k' < 4 → E (d t) 3 k = some x → E (d t') 3 k' = some x → t = t'
/-- the tables -/
def CXt (a : AS) (b : CT) (s : Nat) (d r ct : Nat → Nat) (I : Nat → Nat → Int32) (F : Nat → Nat → Option Nat) (A : Nat → Nat → Nat → Int32) (E : Nat → Nat → Nat → Option Nat) : Prop := I s 3 = a.tn ∧ ∀ t, inT a t → E s 0 t = some (d t) ∧ Is b 10 (d t) ∧ (I (d t) 0).toInt = (t : Int) ∧ I (d t) 1 = a.co t ∧ F (d t) 2 = some (r t) ∧ Is b 0 (r t) ∧ I (r t) 0 = 4 ∧ ct (r t) = t ∧ (I (d t) 5).toInt = ((a.ky t).length : Int) ∧ ∀ (i : Nat) (m : Int32), (a.ky t)[i]? = some m → A (d t) 4 i = m
/-- the keeper and its parts -/
def CXs (b : CT) (o s h l : Nat) (lk : Nat → Nat) (F : Nat → Nat → Option Nat) (E : Nat → Nat → Nat → Option Nat) : Prop := Is b 11 o ∧ F o 2 = some s ∧ Is b 9 s ∧ F s 2 = some h ∧ Is b 3 h ∧ F o 6 = some l ∧ Is b 5 l ∧ (∀ c, c < 10 → E o 3 c = some (lk c) ∧ Is b 5 (lk c) ∧ lk c ≠ l) ∧ (∀ c c', c < 10 → c' < 10 → lk c = lk c' → c = c') ∧ ∀ v i q, Is b 8 v → E v 3 i = some q → q ≠ l ∧ ∀ c, c < 10 → q ≠ lk c
/-- a fact -/
def CF1 (a : AS) (b : CT) (d fa : Nat → Nat) (I : Nat → Nat → Int32) (F : Nat → Nat → Option Nat) (A : Nat → Nat → Nat → Int32) (t n : Nat) : Prop := Is b 1 (fa n) ∧ F (fa n) 2 = some (d t) ∧ (∀ k, k < 4 → A (fa n) 0 k = a.fc n k) ∧ (I (fa n) 4).toInt = (n : Int) ∧ (I (fa n) 5).toInt = a.fb n ∧ (I (fa n) 6).toInt = a.fd n
/-- the facts that are kept -/
def CXk (a : AS) (b : CT) (s : Nat) (fa : Nat → Nat) (E : Nat → Nat → Nat → Option Nat) : Prop := (∀ i q, i < 3000 → E s 1 i = some q → Is b 1 q) ∧ (∀ i j q, i < 3000 → j < 3000 → E s 1 i = some q → E s 1 j = some q → i = j) ∧ (∀ i, i < (allF a).length → ∃ t n, n ∈ a.rw t ∧ E s 1 i = some (fa n)) ∧ ∀ t n, n ∈ a.rw t → ∃ i, i < (allF a).length ∧ E s 1 i = some (fa n)
def CXn (a : AS) (s : Nat) (I : Nat → Nat → Int32) : Prop := (I s 4).toInt = ((allF a).length : Int) ∧ (I s 5).toInt = (a.nn : Int) ∧ (I s 6).toInt = a.tm ∧ (I s 7).toInt = a.hz
def CXh (a : AS) (h sz : Nat) (fa : Nat → Nat) (I : Nat → Nat → Int32) (F : Nat → Nat → Option Nat) (A : Nat → Nat → Nat → Int32) (E : Nat → Nat → Nat → Option Nat) : Prop := (I h 4).toInt = (a.mk.length : Int) ∧ (∀ (i m : Nat), a.mk[i]? = some m → (A h 2 i).toInt = (m : Int)) ∧ (I h 3).toInt = (if a.mk = [] then (sz : Int) else (a.hs.length : Int)) ∧ (∀ (i : Nat) (e : Nat × Bool), a.hs[i]? = some e → E h 0 i = some (fa e.1) ∧ (A h 1 i ≠ 0 ↔ e.2 = true)) ∧ ∀ t n, n ∈ a.rw t → baseT a < a.fb n → F (fa n) 3 = if a.sn n = n then none else some (fa (a.sn n))
/-- a look stands for: over, table, mask, time, last, told, values -/
def Lk1 (a : AS) (q t : Nat) (ov : Bool) (m : Int32) (T : Int) (la : Option Nat) (vs : Nat → Int32) (d fa : Nat → Nat) (I : Nat → Nat → Int32) (F : Nat → Nat → Option Nat) (A : Nat → Nat → Nat → Int32) : Prop := inT a t ∧ (I q 6 ≠ 0 ↔ ov = true) ∧ F q 2 = some (d t) ∧ (∀ k, k < 4 → bitm (I q 3) k = (bitm m k && decide ((k : Int) < (a.co t).toInt))) ∧ (I q 4).toInt = T ∧ F q 5 = la.map fa ∧ (∀ k, k < 4 → A q 1 k = vs k) ∧ ∀ n, la = some n → n ∈ a.rw t ∧ fitB a t m vs n = true
def CXc (a : AS) (o : Nat) (lk d fa : Nat → Nat) (I : Nat → Nat → Int32) (F : Nat → Nat → Option Nat) (A : Nat → Nat → Nat → Int32) : Prop := ∀ c, c < 10 → (A o 4 c ≠ 0 ↔ a.op c = true) ∧ (a.op c = true → Lk1 a (lk c) (a.ct c) (a.ov c) (a.cm c) (a.ci c) (a.cl c) (a.cv c) d fa I F A ∧ I (lk c) 0 = a.cd c)
def CXo (a : AS) (o : Nat) (I : Nat → Nat → Int32) (A : Nat → Nat → Nat → Int32) : Prop := (∀ k, k < 4 → A o 1 k = a.vv k) ∧ (I o 10).toInt = (a.fo.length : Int) ∧ ∀ (i : Nat) (v : Int32), a.fo[i]? = some v → A o 5 i = v
/-- the chains: rows and indexes -/
def CXr (a : AS) (b : CT) (d r ct fa : Nat → Nat) (I : Nat → Nat → Int32) (F : Nat → Nat → Option Nat) (E : Nat → Nat → Nat → Option Nat) : Prop := CH1 b I F E (fun c => (rowL a (ct c) (ix (I c 0)) (I c 1)).map fa) ∧ CH2 b a.tn d r ct I E ∧ CH3 b a.tn a.co d ct I F E ∧ ∀ t k n, inT a t → k < 4 → E (d t) 3 k ≠ none → n ∈ a.rw t → ∃ c, Is b 0 c ∧ ct c = t ∧ ix (I c 0) = k ∧ I c 1 = a.fc n k
/-- what stands beside the heap: store, history, the look of its own; cursors, tables, rows, facts, chains' tables -/
abbrev CGs : Type := Nat × Nat × Nat × (Nat → Nat) × (Nat → Nat) × (Nat → Nat) × (Nat → Nat) × (Nat → Nat) × Nat
abbrev CGs.s (g : CGs) : Nat := g.1
abbrev CGs.h (g : CGs) : Nat := g.2.1
abbrev CGs.l (g : CGs) : Nat := g.2.2.1
abbrev CGs.lk (g : CGs) : Nat → Nat := g.2.2.2.1
abbrev CGs.d (g : CGs) : Nat → Nat := g.2.2.2.2.1
abbrev CGs.r (g : CGs) : Nat → Nat := g.2.2.2.2.2.1
abbrev CGs.fa (g : CGs) : Nat → Nat := g.2.2.2.2.2.2.1
abbrev CGs.ct (g : CGs) : Nat → Nat := g.2.2.2.2.2.2.2.1
/-- the changes' number, where no mark is (0 between calls) -/
abbrev CGs.sz (g : CGs) : Nat := g.2.2.2.2.2.2.2.2
def CXx (o : Nat) (a : AS) (g : CGs) (b : CT) (I : Nat → Nat → Int32) (F : Nat → Nat → Option Nat) (A : Nat → Nat → Nat → Int32) (E : Nat → Nat → Nat → Option Nat) : Prop := CB b ∧ CXs b o g.s g.h g.l g.lk F E ∧ CXt a b g.s g.d g.r g.ct I F A E ∧ (∀ t n, n ∈ a.rw t → CF1 a b g.d g.fa I F A t n) ∧ CXr a b g.d g.r g.ct g.fa I F E ∧ CXk a b g.s g.fa E ∧ CXn a g.s I ∧ CXh a g.h g.sz g.fa I F A E ∧ CXc a o g.lk g.d g.fa I F A ∧ CXo a o I A
def CX (o : Nat) (a : AS) (x : HS) : Prop := ∃ (g : CGs) (b : CT) (I : Nat → Nat → Int32) (F : Nat → Nat → Option Nat) (A : Nat → Nat → Nat → Int32) (E : Nat → Nat → Nat → Option Nat), x = cS b I F A E ∧ g.sz = 0 ∧ CXx o a g b I F A E
def KC (o N : Nat) (a : AS) (x : HS) : Prop := KC1 o N a.1 x ∧ CX o a x
theorem getLast_app {L1 L2 : List Nat} {p : Nat} : (L1 ++ p :: L2).getLast? = (p :: L2).getLast? := by
  rw [List.getLast?_append, List.getLast?_cons]; rfl
section VB
variable {b : CT} {I : Nat → Nat → Int32} {F : Nat → Nat → Option Nat} {A : Nat → Nat → Nat → Int32} {E : Nat → Nat → Nat → Option Nat} {o t n n' k f c p : Nat} {a : AS} {g : CGs} {L : Nat → List Nat} {X X' : String → HS → Prop} {Q Q' : HS → Prop} {QI QI' : Int32 → HS → Prop} {QF QF' : Option Nat → HS → Prop}
theorem CX_wC {c z : Nat} (hz : g.sz = 0) (h : CXx o a g b I F A E) : CX o a (cS (b.B.wC c z, b.2) I F A E) := ⟨g, (b.B.wC c z, b.2), I, F, A, E, rfl, hz, h⟩
theorem fa_inj {t' : Nat} {d fa : Nat → Nat} (h : CF1 a b d fa I F A t n) (h' : CF1 a b d fa I F A t' n') (e : fa n = fa n') : n = n' := by
  have h1 := h.2.2.2.1
  rw [e, h'.2.2.2.1] at h1; omega
/-! putting into a chain -/
theorem up3_nx {f l : Nat} {v : Option Nat} : (fun q => up3 E f 1 l v q 1 l) = va_up (fun q => E q 1 l) f v := by
  funext q
  unfold up3 va_up
  by_cases h : q = f <;> simp [h]
theorem up3_nx' {f l l' : Nat} {v : Option Nat} (h : l' ≠ l) : (fun q => up3 E f 1 l v q 1 l') = fun q => E q 1 l' := by
  funext q
  unfold up3
  rw [if_neg (fun z => h z.2.2)]
/-- what putting into c may change -/
def PuE (b : CT) (c l : Nat) (F F' : Nat → Nat → Option Nat) (E E' : Nat → Nat → Nat → Option Nat) : Prop := (∀ x j, ¬ (x = c ∧ (j = 3 ∨ j = 4)) → F' x j = F x j) ∧ ∀ x j i, ¬ (Is b 1 x ∧ j = 1 ∧ i = l) → E' x j i = E x j i
theorem PuE_Fr {l : Nat} {F' : Nat → Nat → Option Nat} {E' : Nat → Nat → Nat → Option Nat} (hc : Is b 0 c) (h : PuE b c l F F' E E') : Fr b b I I F F' E E' :=
  ⟨Xt_rf, rfl, fun _ _ h => Or.inl h, fun _ _ => rfl, fun c' x j hx hj => h.1 x j (fun z => hj ⟨by rw [← hx.2, z.1]; exact hc.2, z.2⟩), fun c' x j hx h1 h2 => funext fun i => h.2 x j i (fun z => h2 ⟨by rw [← hx.2]; exact z.1.2, z.2.1⟩)⟩
theorem qc_putAhead (hb : CB b) (hH : CH1 b I F E L) (hc : Is b 0 c) (hf : Is b 1 f) (hfn : ∀ c', Is b 0 c' → ix (I c' 0) = ix (I c 0) → f ∉ L c')
    (hQ : ∀ F' E', PuE b c (ix (I c 0)) F F' E E' → (∀ q, q ≠ f → q ∉ L c → E' q = E q) → CH1 b I F' E' (va_up L c (f :: L c)) → Q (cS b I F' A E') → Q' (cS b I F' A E')) : w_X0_putAhead (some c) (some f) (cS b I F A E) Q X → w_X0_putAhead (some c) (some f) (cS b I F A E) Q' X' := by
  unfold w_X0_putAhead
  refine qc_getA hb (by decide) (fun _ => ?_)
  refine qc_getI (fun _ => ?_)
  refine qc_getF hb (by decide) (fun _ => ?_)
  refine qc_astG hb hf (by decide) (by decide) (fun _ _ => ?_)
  refine qc_putF hb (by decide) (fun _ => ?_)
  refine qc_getF hb (by decide) (fun _ => ?_)
  dsimp only [wJoin]
  have e4 : up2 F c 3 (some f) c 4 = F c 4 := if_neg (fun z => absurd z.2 (by decide))
  rw [e4]
  obtain ⟨h1, h2⟩ := hH c hc
  have key : ∀ F', (∀ x j, ¬ (x = c ∧ (j = 3 ∨ j = 4)) → F' x j = F x j) → F' c 3 = some f → F' c 4 = (f :: L c).getLast? → CH1 b I F' (up3 E f 1 (ix (I c 0)) (F c 3)) (va_up L c (f :: L c)) := fun F' q1 q2 q3 c' hc' => by
    by_cases e : c' = c
    · subst e
      rw [va_up_self]
      refine ⟨?_, q3⟩
      rw [up3_nx, q2]
      exact LnO_cons h1 (hfn c' hc' rfl)
    · rw [va_up_ne _ _ e]
      obtain ⟨z1, z2⟩ := hH c' hc'
      refine ⟨?_, by rw [q1 c' 4 (fun z => e z.1)]; exact z2⟩
      rw [q1 c' 3 (fun z => e z.1)]
      by_cases el : ix (I c' 0) = ix (I c 0)
      · rw [el] at z1 ⊢
        rw [up3_nx]
        exact LnO_congr (fun q hq => va_up_ne _ _ (fun z => hfn c' hc' el (by rw [← z]; exact hq))) z1
      · rw [up3_nx' el]; exact z1
  have pe : ∀ F', (∀ x j, ¬ (x = c ∧ (j = 3 ∨ j = 4)) → F' x j = F x j) → PuE b c (ix (I c 0)) F F' E (up3 E f 1 (ix (I c 0)) (F c 3)) := fun F' q1 => ⟨q1, fun x j i hx => if_neg (fun z => hx ⟨by rw [z.1]; exact hf, z.2.1, z.2.2⟩)⟩
  have ee : ∀ q, q ≠ f → q ∉ L c → up3 E f 1 (ix (I c 0)) (F c 3) q = E q := fun q hq _ => funext fun j => funext fun i => if_neg (fun z => hq z.1)
  refine qv_if (fun z => ?_) (fun z => ?_)
  · have hL : L c = [] := by
      rw [z] at h2
      exact List.getLast?_eq_none_iff.mp h2.symm
    refine qc_putF hb (by decide) (fun _ => ?_)
    have q1 : ∀ x j, ¬ (x = c ∧ (j = 3 ∨ j = 4)) → up2 (up2 F c 3 (some f)) c 4 (some f) x j = F x j := fun x j hx => (if_neg (fun y => hx ⟨y.1, Or.inr y.2⟩)).trans (if_neg (fun y => hx ⟨y.1, Or.inl y.2⟩))
    refine hQ _ _ (pe _ q1) ee (key _ q1 ?_ ?_)
    · exact (if_neg (fun y => absurd y.2 (by decide))).trans (up2_self _ _ _ _)
    · rw [up2_self, hL]; rfl
  · have hL : L c ≠ [] := fun y => z (by rw [h2, y]; rfl)
    have q1 : ∀ x j, ¬ (x = c ∧ (j = 3 ∨ j = 4)) → up2 F c 3 (some f) x j = F x j := fun x j hx => if_neg (fun y => hx ⟨y.1, Or.inl y.2⟩)
    refine hQ _ _ (pe _ q1) ee (key _ q1 (up2_self _ _ _ _) ?_)
    rw [e4, h2]
    obtain ⟨y, ys, e⟩ := List.exists_cons_of_ne_nil hL
    rw [e]; rfl
theorem qc_putAfter (hb : CB b) (hH : CH1 b I F E L) (hc : Is b 0 c) (hf : Is b 1 f) (hp : Is b 1 p) {L1 L2 : List Nat} (hL : L c = L1 ++ p :: L2) (hn : (L c).Nodup) (hfn : ∀ c', Is b 0 c' → ix (I c' 0) = ix (I c 0) → f ∉ L c') (hd : ∀ c', Is b 0 c' → c' ≠ c → ix (I c' 0) = ix (I c 0) → p ∉ L c')
    (hQ : ∀ F' E', PuE b c (ix (I c 0)) F F' E E' → (∀ q, q ≠ f → q ∉ L c → E' q = E q) → CH1 b I F' E' (va_up L c (L1 ++ p :: f :: L2)) → Q (cS b I F' A E') → Q' (cS b I F' A E')) : w_X0_putAfter (some c) (some f) (some p) (cS b I F A E) Q X → w_X0_putAfter (some c) (some f) (some p) (cS b I F A E) Q' X' := by
  unfold w_X0_putAfter
  refine qc_getA hb (by decide) (fun _ => ?_)
  refine qc_getI (fun _ => ?_)
  refine qc_getA hb (by decide) (fun _ => ?_)
  refine qc_getI (fun _ => ?_)
  refine qc_aldG hb hp (by decide) (by decide) (fun _ => ?_)
  refine qc_astG hb hf (by decide) (by decide) (fun _ _ => ?_)
  refine qc_getA hb (by decide) (fun _ => ?_)
  refine qc_getI (fun _ => ?_)
  refine qc_astG hb hp (by decide) (by decide) (fun _ _ => ?_)
  refine qc_getF hb (by decide) (fun _ => ?_)
  dsimp only [wJoin]
  obtain ⟨h1, h2⟩ := hH c hc
  have hn' := List.nodup_append.mp (by rw [hL] at hn; exact hn)
  have hp1 : p ∉ L1 := fun z => hn'.2.2 p z p List.mem_cons_self rfl
  have hp2 : p ∉ L2 := (List.nodup_cons.mp hn'.2.1).1
  have hfc := hfn c hc rfl
  rw [hL] at hfc
  have hf1 : f ∉ L1 := fun z => hfc (List.mem_append_left _ z)
  have hf2 : f ∉ L2 := fun z => hfc (List.mem_append_right _ (List.mem_cons_of_mem _ z))
  have hfp : f ≠ p := fun z => hfc (List.mem_append_right _ (by rw [z]; exact List.mem_cons_self))
  have key : ∀ F', (∀ x j, ¬ (x = c ∧ (j = 3 ∨ j = 4)) → F' x j = F x j) → F' c 3 = F c 3 → F' c 4 = (L1 ++ p :: f :: L2).getLast? → CH1 b I F' (up3 (up3 E f 1 (ix (I c 0)) (E p 1 (ix (I c 0)))) p 1 (ix (I c 0)) (some f)) (va_up L c (L1 ++ p :: f :: L2)) := fun F' q1 q2 q3 c' hc' => by
    by_cases e : c' = c
    · subst e
      rw [va_up_self]
      refine ⟨?_, q3⟩
      rw [up3_nx, up3_nx, q2]
      rw [hL] at h1
      exact LnO_ins h1 hp1 hp2 hf1 hf2 hfp
    · rw [va_up_ne _ _ e]
      obtain ⟨z1, z2⟩ := hH c' hc'
      refine ⟨?_, by rw [q1 c' 4 (fun z => e z.1)]; exact z2⟩
      rw [q1 c' 3 (fun z => e z.1)]
      by_cases el : ix (I c' 0) = ix (I c 0)
      · rw [el] at z1 ⊢
        rw [up3_nx, up3_nx]
        exact LnO_congr (fun q hq => by rw [va_up_ne _ _ (fun z => hd c' hc' e el (by rw [← z]; exact hq)), va_up_ne _ _ (fun z => hfn c' hc' el (by rw [← z]; exact hq))]) z1
      · rw [up3_nx' el, up3_nx' el]; exact z1
  have pe : ∀ F', (∀ x j, ¬ (x = c ∧ (j = 3 ∨ j = 4)) → F' x j = F x j) → PuE b c (ix (I c 0)) F F' E (up3 (up3 E f 1 (ix (I c 0)) (E p 1 (ix (I c 0)))) p 1 (ix (I c 0)) (some f)) := fun F' q1 => ⟨q1, fun x j i hx => (if_neg (fun z => hx ⟨by rw [z.1]; exact hp, z.2.1, z.2.2⟩)).trans (if_neg (fun z => hx ⟨by rw [z.1]; exact hf, z.2.1, z.2.2⟩))⟩
  have ee : ∀ q, q ≠ f → q ∉ L c → up3 (up3 E f 1 (ix (I c 0)) (E p 1 (ix (I c 0)))) p 1 (ix (I c 0)) (some f) q = E q := fun q hq hqL => funext fun j => funext fun i => (if_neg (fun z => hqL (by rw [z.1, hL]; exact List.mem_append_right _ List.mem_cons_self))).trans (if_neg (fun z => hq z.1))
  have hlast : F c 4 = (p :: L2).getLast? := by rw [h2, hL, getLast_app]
  refine qv_if (fun z => ?_) (fun z => ?_)
  · have hL2 : L2 = [] := by
      cases L2 with
      | nil => rfl
      | cons y ys =>
        exfalso
        rw [z] at hlast
        have : some p = (y :: ys).getLast? := hlast
        exact hp2 (List.mem_of_getLast? this.symm)
    refine qc_putF hb (by decide) (fun _ => ?_)
    have q1 : ∀ x j, ¬ (x = c ∧ (j = 3 ∨ j = 4)) → up2 F c 4 (some f) x j = F x j := fun x j hx => if_neg (fun y => hx ⟨y.1, Or.inr y.2⟩)
    refine hQ _ _ (pe _ q1) ee (key _ q1 (if_neg (fun y => absurd y.2 (by decide))) ?_)
    rw [up2_self, hL2, getLast_app]; rfl
  · have hL2 : L2 ≠ [] := fun y => z (by rw [hlast, y]; rfl)
    refine hQ _ _ (pe _ (fun _ _ _ => rfl)) ee (key _ (fun _ _ _ => rfl) rfl ?_)
    obtain ⟨y, ys, e⟩ := List.exists_cons_of_ne_nil hL2
    rw [hlast, e, getLast_app, List.getLast?_cons_cons, List.getLast?_cons_cons, List.getLast?_cons_cons]
theorem qc_putBehind (hb : CB b) (hH : CH1 b I F E L) (hc : Is b 0 c) (hf : Is b 1 f) (hm : ∀ q, q ∈ L c → Is b 1 q) (hn : (L c).Nodup) (hfn : ∀ c', Is b 0 c' → ix (I c' 0) = ix (I c 0) → f ∉ L c') (hd : ∀ c', Is b 0 c' → c' ≠ c → ix (I c' 0) = ix (I c 0) → ∀ q, q ∈ L c → q ∉ L c')
    (hQ : ∀ F' E', PuE b c (ix (I c 0)) F F' E E' → (∀ q, q ≠ f → q ∉ L c → E' q = E q) → CH1 b I F' E' (va_up L c (L c ++ [f])) → Q (cS b I F' A E') → Q' (cS b I F' A E')) : w_X0_putBehind (some c) (some f) (cS b I F A E) Q X → w_X0_putBehind (some c) (some f) (cS b I F A E) Q' X' := by
  unfold w_X0_putBehind
  refine qc_getF hb (by decide) (fun _ => ?_)
  dsimp only [wJoin]
  have h2 := (hH c hc).2
  refine qv_if (fun z => ?_) (fun z => ?_)
  · have hL : L c = [] := by
      rw [z] at h2
      exact List.getLast?_eq_none_iff.mp h2.symm
    refine qc_recv (fun _ => ?_)
    refine qc_putAhead hb hH hc hf hfn (fun F' E' h3 h5 h4 => ?_)
    rw [hL] at h4 h5 hQ
    exact hQ F' E' h3 h5 h4
  · rcases nil_or_end (L c) with e | ⟨L1, p, e⟩
    · exact absurd (by rw [h2, e]; rfl) z
    · refine qc_getF hb (by decide) (fun _ => ?_)
      have e4 : F c 4 = some p := by rw [h2, e, getLast_app]; rfl
      rw [e4]
      refine qc_recv (fun _ => ?_)
      have hpm : p ∈ L c := by rw [e]; exact List.mem_append_right _ (List.mem_singleton.mpr rfl)
      refine qc_putAfter hb hH hc hf (hm p hpm) (L1 := L1) (L2 := []) e hn hfn (fun c' h1 h2 h3 => hd c' h1 h2 h3 p hpm) (fun F' E' h3 h5 h4 => ?_)
      refine hQ F' E' h3 h5 ?_
      rw [e, List.append_assoc]
      exact h4
end VB
