set_option linter.unusedVariables false
set_option linter.unusedSimpArgs false
/-! the dead are forgotten -/
/-- chains of the table t have been emptied -/
def Em (b : CT) (g : Gh) (t : Nat) (F F' : Nat → Nat → Option Nat) : Prop := ∀ a j, F' a j = F a j ∨ Is b 0 a ∧ g.T a = t ∧ (j = 3 ∨ j = 4) ∧ F' a j = none
def Mt (F : Nat → Nat → Option Nat) (c : Nat) : Prop := F c 3 = none ∧ F c 4 = none
def Sv (I : Nat → Nat → Int32) (u : Int32) (f : Nat) : Prop := I f 6 = -1 ∨ ¬ I f 6 ≤ u
section C15
variable {b : CT} {g : Gh} {o s h N : Nat} {vv : Nat → Int32} {I : Nat → Nat → Int32} {F F' F'' : Nat → Nat → Option Nat} {A : Nat → Nat → Nat → Int32} {E : Nat → Nat → Nat → Option Nat} {W : Nat → Prop} {X : String → HS → Prop} {Q : HS → Prop} {QI : Int32 → HS → Prop} {QF : Option Nat → HS → Prop}
theorem Em_rf {t : Nat} : Em b g t F F := fun _ _ => Or.inl rfl
theorem Em_tr {t : Nat} (h1 : Em b g t F F') (h2 : Em b g t F' F'') : Em b g t F F'' := fun a j => by
  rcases h2 a j with h | h
  · rw [h]; exact h1 a j
  · exact Or.inr h
theorem Em_2 {t a j : Nat} (h1 : Em b g t F F') (hj : j ≠ 3 ∧ j ≠ 4) : F' a j = F a j := (h1 a j).resolve_right (fun z => by omega)
theorem Em_n {t a : Nat} (h1 : Em b g t F F') (hn : ¬ Is b 0 a) : F' a = F a := funext fun j => (h1 a j).resolve_right (fun z => hn z.1)
theorem Em_Mt {t c : Nat} (h1 : Em b g t F F') (h : Mt F c) : Mt F' c := ⟨(h1 c 3).elim (fun z => by rw [z]; exact h.1) (fun z => z.2.2.2), (h1 c 4).elim (fun z => by rw [z]; exact h.2) (fun z => z.2.2.2)⟩
theorem c_emptyC (hb : CB b) {t c : Nat} (hc : Is b 0 c) (hT : g.T c = t) (hQ : ∀ F', Em b g t F F' → Mt F' c → Q (cS b I F' A E)) : w_X0_empty (some c) (cS b I F A E) Q X := by
  simp only [w_X0_empty, cw hb, hc]
  refine hQ _ (fun a j => ?_) ⟨?_, ?_⟩
  · by_cases ha : a = c
    · subst ha
      by_cases h4 : j = 4
      · rw [h4, up2_self]; exact Or.inr ⟨hc, hT, Or.inr rfl, rfl⟩
      · rw [up2_k _ _ _ _ h4]
        by_cases h3 : j = 3
        · rw [h3, up2_self]; exact Or.inr ⟨hc, hT, Or.inl rfl, rfl⟩
        · rw [up2_k _ _ _ _ h3]; exact Or.inl rfl
    · rw [up2_a _ _ _ _ ha, up2_a _ _ _ _ ha]; exact Or.inl rfl
  · rw [up2_k _ _ _ _ (by decide), up2_self]
  · rw [up2_self]
theorem c_emptyX (hb : CB b) (hL : LO b g I F E) {t x : Nat} (hx : Is b 4 x) (hU : g.U x = t) {F0 : Nat → Nat → Option Nat} (h0 : Em b g t F F0) (hQ : ∀ F', Em b g t F F' → (∀ c, Mt F0 c → Mt F' c) → (∀ i n c, i < 64 → Sb F n (E x 1 i) c → Mt F' c) → Q (cS b I F' A E)) : w_X4_empty (some x) (cS b I F0 A E) Q X := by
  simp only [w_X4_empty]
  refine wLoop_i (fun n v y => ∃ F1, y = cS b I F1 A E ∧ Em b g t F F1 ∧ (∀ c, Mt F0 c → Mt F1 c) ∧ (∀ i n c, i < ix v → Sb F n (E x 1 i) c → Mt F1 c) ∧ 0 ≤ v.toInt ∧ v.toInt ≤ 64 ∧ n = (64 - v.toInt).toNat) 64 ⟨F0, rfl, h0, fun _ h => h, fun i n c hi => absurd hi (by show ¬ i < 0; omega), by decide, by decide, by decide⟩ ?_
  rintro n v y again ha ⟨F1, rfl, p1, p1b, p2, p3, p4, p5⟩
  refine ⟨fun hv => ?_, fun hv => ?_⟩
  · have : v.toInt = 64 := by simp only [i32, Int32.reduceToInt] at hv; omega
    have e : ix v = 64 := ix_of this
    exact hQ F1 p1 p1b (fun i n c hi => p2 i n c (by omega))
  · have hv4 : v.toInt < 64 := by simp only [i32, Int32.reduceToInt] at hv; omega
    have ev : (v + 1).toInt = v.toInt + 1 := i_add rfl (by decide) (by omega)
    have hvi : ((ix v : Nat) : Int) = v.toInt := ix_int p3
    have eix : ix (v + 1) = ix v + 1 := ix_of (by omega)
    simp only [cw hb, hx, show wIn v 64 from ⟨p3, by omega⟩, true_and]
    refine wLoop_i (fun m w y => w.1 = v ∧ ∃ F2, y = cS b I F2 A E ∧ Em b g t F F2 ∧ (∀ c, Mt F1 c → Mt F2 c) ∧ (∀ c, w.2 = some c → Is b 0 c ∧ g.T c = t) ∧ (∀ n c, Sb F n (E x 1 (ix v)) c → Mt F2 c ∨ ∃ m, Sb F m w.2 c) ∧ m = (match w.2 with | none => 0 | some c => g.S c + 1)) _ ⟨rfl, F1, rfl, p1, fun _ h => h, fun c hc => ?_, fun n c h => Or.inr ⟨n, h⟩, rfl⟩ ?_
    · obtain ⟨z1, z2, -⟩ := (hL.2.1 x hx).2.2 _ c hc
      exact ⟨z1, by rw [z2]; exact hU⟩
    · rintro m ⟨w1, w2⟩ y again2 ha2 ⟨e1, F2, rfl, q1, q2, q3, q4, q5⟩
      dsimp only at e1 q3 q4 q5 ⊢
      subst e1
      refine ⟨fun hw => ?_, fun hw => ?_⟩
      · refine ha _ _ _ (by omega) ⟨F2, rfl, q1, fun c hc => q2 c (p1b c hc), fun i n c hi hS => ?_, by omega, by omega, rfl⟩
        by_cases hi2 : i = ix w1
        · rw [hi2] at hS
          refine (q4 n c hS).elim id (fun ⟨m, hm⟩ => ?_)
          rw [hw] at hm
          cases m with
          | zero => exact absurd hm (by show ¬ none = some c; simp)
          | succ m => obtain ⟨d, hd, -⟩ := hm; exact absurd hd (by simp)
        · exact q2 c (p2 i n c (by omega) hS)
      · obtain ⟨c, rfl⟩ := Option.ne_none_iff_exists'.mp hw
        obtain ⟨c1, c2⟩ := q3 c rfl
        rw [c_recv c1]
        refine c_emptyC hb c1 c2 (fun F3 r1 r2 => ?_)
        simp only [cw hb, c1]
        have e2 : F3 c 2 = F c 2 := by rw [Em_2 r1 (by omega), Em_2 q1 (by omega)]
        rw [e2]
        obtain ⟨-, -, l3, -⟩ := hL.1 c c1
        refine ha2 (match F c 2 with | none => 0 | some d => g.S d + 1) _ _ ?_ ⟨rfl, F3, rfl, Em_tr q1 r1, fun d hd => Em_Mt r1 (q2 d hd), fun d hd => ?_, fun n d hS => ?_, rfl⟩
        · rw [q5]
          cases he : F c 2 with
          | none => exact Nat.succ_pos _
          | some d => exact Nat.succ_lt_succ (l3 d he).2.1
        · obtain ⟨z1, z2, z3, -⟩ := l3 d hd
          exact ⟨z1, by rw [z3]; exact c2⟩
        · rcases q4 n d hS with z | ⟨m, z⟩
          · exact Or.inl (Em_Mt r1 z)
          · cases m with
            | zero =>
              have z : some c = some d := z
              cases z; exact Or.inl r2
            | succ m =>
              obtain ⟨d', z1, z2⟩ := z
              cases z1
              exact Or.inr ⟨m, z2⟩
/-- the rows without the table t -/
def gD (g : Gh) (F : Nat → Nat → Option Nat) (t : Nat) : Gh := (fun l f => g.V l f ∧ F f 2 ≠ some t, g.2)
theorem drop_all {t : Nat} (hL : LO b g I F E) (hV : VC g F E NX) (hP : PR g F E) (hC : CE b g I F A E) (hE : Em b g t F F') (hM : ∀ c, Is b 0 c → g.T c = t → Mt F' c) : LO b (gD g F t) I F' E ∧ VC (gD g F t) F' E NX ∧ PR (gD g F t) F' E ∧ CE b (gD g F t) I F' A E := by
  obtain ⟨l1, l2, l3, l4⟩ := id hL
  have e2 : ∀ a, F' a 2 = F a 2 := fun a => Em_2 hE (by omega)
  have ec : ∀ c, g.T c ≠ t → F' c = F c := fun c hc => funext fun j => (hE c j).resolve_right (fun z => hc z.2.1)
  refine ⟨⟨fun c hc => ?_, l2, fun t' ht => ?_, fun l f hv => ?_⟩, ⟨fun l f hv => ⟨⟨(hV.1 l f hv.1).1, hv.2⟩, (hV.1 l f hv.1).2⟩, fun k f t' hk hv ht hx => ?_⟩, ⟨fun f t' hv ht => ?_, ?_⟩, ⟨fun k f t' x hk hv ht hx => ?_, RC_eq hC.2 hL (fun _ _ h => h) (fun _ _ => rfl) (fun _ _ => rfl) (fun t _ => e2 t) (fun c _ => e2 c) (fun _ _ => rfl)⟩⟩
  · obtain ⟨p1, p2, p3, p4, p5⟩ := l1 c hc
    refine ⟨p1, p2, by rw [e2]; exact p3, fun f hf => ?_, fun f hf => ?_⟩
    · by_cases hT : g.T c = t
      · rw [(hM c hc hT).1] at hf; exact absurd hf (by simp)
      · rw [ec c hT] at hf
        have := p4 f hf
        exact ⟨⟨this.1, fun z => hT (by rw [this.2] at z; cases z; rfl)⟩, by rw [e2]; exact this.2⟩
    · by_cases hT : g.T c = t
      · rw [(hM c hc hT).2] at hf; exact absurd hf (by simp)
      · rw [ec c hT] at hf
        have := p5 f hf
        exact ⟨⟨this.1, fun z => hT (by rw [this.2] at z; cases z; rfl)⟩, by rw [e2]; exact this.2⟩
  · obtain ⟨p1, p2, p3, p4⟩ := l3 t' ht
    exact ⟨p1, p2, by rw [e2]; exact p3, p4⟩
  · obtain ⟨p1, p2, p3⟩ := l4 l f hv.1
    refine ⟨p1, by rw [e2]; exact p2, fun f' hf' => ?_⟩
    obtain ⟨q1, q2, q3⟩ := p3 f' hf'
    exact ⟨⟨q1, by rw [q2]; exact hv.2⟩, by rw [e2, e2]; exact q2, q3⟩
  · rw [e2] at ht
    rw [hV.2 k f t' hk hv.1 ht hx]
    exact ⟨fun z => ⟨z, hv.2⟩, fun z => z.1⟩
  · rw [e2] at ht
    have htt := tab_of hL hv.1 ht
    have hne : t' ≠ t := fun z => hv.2 (by rw [ht, z])
    rcases hP.1 f t' hv.1 ht with ⟨r, p1, p2⟩ | ⟨p, p1, p2, p3⟩
    · obtain ⟨-, -, ⟨r', q3, q4, q5, -⟩, -⟩ := l3 t' htt
      rw [p1] at q3; cases q3
      exact Or.inl ⟨r, by rw [e2]; exact p1, by rw [ec r (by rw [q5]; exact hne)]; exact p2⟩
    · exact Or.inr ⟨p, ⟨p1, by rw [p2]; simpa using hne⟩, by rw [e2]; exact p2, p3⟩
  · obtain ⟨B, hB⟩ := hP.2
    exact ⟨B, fun f hf => hB f hf.1⟩
  · rw [e2] at ht
    obtain ⟨n, hn⟩ := hC.1 k f t' x hk hv.1 ht hx
    have htt := tab_of hL hv.1 ht
    obtain ⟨x1, -⟩ := (l3 t' htt).2.2.2 k x hx
    exact ⟨n, Fd_mono hL (fun c _ => ⟨rfl, e2 c⟩) (fun c hc => ((l2 x x1).2.2 _ c hc).1) hn⟩
theorem c_drop (hb : CB b) (hL : LO b g I F E) (hV : VC g F E NX) (hP : PR g F E) (hC : CE b g I F A E) (hA : ∀ x, Is b 4 x → E (g.U x) 3 (ix (I x 0)) = some x) {t : Nat} {u : Int32} (ht : Is b 10 t)
    (hQ : ∀ g' F' E', Fr b b I I F F' E E' → LO b g' I F' E' → PR g' F' E' → CE b g' I F' A E' → VC g' F' E' NX → (∀ l f, g'.V l f → g.V l f) → (∀ f, g'.V 4 f → F f 2 = some t → Sv I u f) → (∀ x, Is b 4 x → E' (g'.U x) 3 (ix (I x 0)) = some x) → Q (cS b I F' A E')) : w_X10_dropDeadBy (some t) u (cS b I F A E) Q X := by
  obtain ⟨r, r1, r2, r3, r4, r5⟩ := row_of hL ht
  obtain ⟨tc, -, -, tx⟩ := hL.2.2.1 t ht
  simp only [w_X10_dropDeadBy, cw hb, ht, r1, r2]
  refine c_emptyC (g := g) (t := t) hb r2 r3 (fun F0 m1 m2 => ?_)
  refine wLoop_i (fun n v y => ∃ F1, y = cS b I F1 A E ∧ Em b g t F F1 ∧ Mt F1 r ∧ (∀ k x, k < ix v → E t 3 k = some x → ∀ i n c, i < 64 → Sb F n (E x 1 i) c → Mt F1 c) ∧ 0 ≤ v.toInt ∧ v.toInt ≤ (I t 1).toInt ∧ n = (4 - v.toInt).toNat) 4 ⟨F0, rfl, m1, m2, fun k x hk => absurd hk (by show ¬ k < 0; omega), by decide, by simp only [Int32.reduceToInt]; omega, by decide⟩ ?_
  rintro n v y again ha ⟨F1, rfl, p1, p2, p3, p4, p5, p6⟩
  have hvi : ((ix v : Nat) : Int) = v.toInt := ix_int p4
  rw [c_getI ht]
  refine ⟨fun hv => ?_, fun hv => ?_⟩
  · have hv1 : v.toInt = (I t 1).toInt := by simp only [i32] at hv; omega
    have hM : ∀ c, Is b 0 c → g.T c = t → Mt F1 c := fun c hc hT => by
      rcases hC.2 c hc with z | ⟨x, i, n, z1, z2, z3, z4⟩
      · rw [hT, r1] at z; cases z; exact p2
      · have h1 := hA x z1
        rw [z2, hT] at h1
        exact p3 _ x (by have := (tx _ x h1).2.2.2; omega) h1 i n c z3 z4
    obtain ⟨d1, d2, d3, d4⟩ := drop_all hL hV hP hC p1 hM
    have e2 : ∀ a, F1 a 2 = F a 2 := fun a => Em_2 p1 (by omega)
    have hFr1 : Fr b b I I F F1 E E := ⟨Xt_rf, rfl, fun _ _ h => Or.inl h, fun _ _ => rfl, fun c a j hca hj => (p1 a j).resolve_right (fun z => hj ⟨by rw [← hca.2, z.1.2], z.2.2.1⟩), fun _ _ _ _ _ _ => rfl⟩
    refine wLoop_i (fun n w y => ∃ g2 F2 E2, y = cS b I F2 A E2 ∧ Fr b b I I F F2 E E2 ∧ LO b g2 I F2 E2 ∧ PR g2 F2 E2 ∧ CE b g2 I F2 A E2 ∧ VC g2 F2 E2 NX ∧ (∀ l f, g2.V l f → g.V l f) ∧ (∀ f, g2.V 4 f → F f 2 = some t → Sv I u f ∧ rk g 4 w ≤ g.R 4 f) ∧ (∀ a, g.V 4 a → F a 2 = some t → ¬ g2.V 4 a → E2 a = E a) ∧ (∀ x, Is b 4 x → E2 x 1 = E x 1) ∧ On g F 4 t w ∧ n = rk g 4 w) _ ⟨gD g F t, F1, E, rfl, hFr1, d1, d3, d4, d2, fun l f h => h.1, fun f h z => absurd z h.2, fun _ _ _ _ => rfl, fun _ _ => rfl, r5, rfl⟩ ?_
    rintro n w y again2 ha2 ⟨g2, F2, E2, rfl, q1, q2, q3, q4, q5, q6, q7, q8, q9, q10, q11⟩
    have t3 : ∀ t', Is b 10 t' → E2 t' 3 = E t' 3 := fun t' ht' => q1.2.2.2.2.2 10 t' 3 ht' (by decide) (by decide)
    refine ⟨fun hw => hQ g2 F2 E2 q1 q2 q3 q4 q5 q6 (fun f h1 h2 => (q7 f h1 h2).1) (fun x hx => ?_), fun hw => ?_⟩
    · have hU : Is b 10 (g.U x) := (hL.2.1 x hx).2.1
      have h1 : E2 (g.U x) 3 (ix (I x 0)) = some x := by rw [t3 _ hU]; exact hA x hx
      rw [((q2.2.2.1 _ hU).2.2.2 _ x h1).2.1]; exact h1
    · obtain ⟨f, rfl⟩ := Option.ne_none_iff_exists'.mp hw
      obtain ⟨s1, s2, s3⟩ := On_step hL q10
      obtain ⟨v1, v2⟩ := q10 f rfl
      have hnv : ¬ g2.V 4 f := fun z => by
        have := (q7 f z v2).2
        exact absurd this (by show ¬ g.R 4 f + 1 ≤ g.R 4 f; omega)
      have eEf : E2 f = E f := q8 f v1 v2 hnv
      simp only [cw hb, s1, show wIn 4 5 from ⟨by decide, by decide⟩, true_and, show ix 4 = 4 from by decide, eEf, c_isThereNow s1]
      have hskip : ¬ Sv I u f ∨ True → again2 (E f 1 4) (cS b I F2 A E2) := fun _ => ha2 _ _ _ (by omega) ⟨g2, F2, E2, rfl, q1, q2, q3, q4, q5, q6, fun f' h1 h2 => ⟨(q7 f' h1 h2).1, by have := (q7 f' h1 h2).2; omega⟩, q8, q9, s2, rfl⟩
      have e22 : ∀ c a, Is b c a → F2 a 2 = F a 2 := fun c a hca => q1.2.2.2.2.1 c a 2 hca (by omega)
      have hput : Sv I u f → wRecv (cS b I F2 A E2) 10 (some t) (w_X10_place (some t) (some f) 0 (cS b I F2 A E2) (fun x23 => again2 (E f 1 4) x23) X) := fun hsv => by
        rw [c_recv ht]
        refine c_place (p := True) hb q2 q3 q4 q5 hnv ht s1 (by rw [e22 1 f s1]; exact v2) (fun _ k x hk hx => ?_) (Or.inl trivial) (fun b' g' I' F' E' z1 z2 z3 z4 z5 z6 z7 z8 z9 z10 => ?_)
        · rw [t3 t ht] at hx
          have hVk : g.V k f := (hV.2 k f t hk v1 v2 (fun z => z)).mp (by rw [hx]; simp)
          obtain ⟨n, hn⟩ := hC.1 k f t x hk hVk v2 hx
          obtain ⟨x1, -⟩ := tx k x hx
          rw [q9 x x1]
          exact ⟨n, Fd_mono hL (fun c hc => ⟨rfl, e22 0 c hc⟩) (fun c hc => ((hL.2.1 x x1).2.2 _ c hc).1) hn⟩
        · obtain ⟨rfl, rfl, y3⟩ := z9 trivial
          refine ha2 _ _ _ (by omega) ⟨g', F', E', rfl, Fr_tr q1 z2, z3, z4, z5, z6, fun l f' h => ?_, fun f' h1 h2 => ?_, fun a h1 h2 h3 => ?_, fun x hx => by rw [y3 x hx, q9 x hx], s2, rfl⟩
          · rcases (z7 l f').mp h with h | ⟨rfl, h⟩
            · exact q6 l f' h
            · rcases h with rfl | ⟨h1, h2⟩
              · exact v1
              · rw [t3 t ht] at h2
                exact (hV.2 l f' t h1 v1 v2 (fun z => z)).mp h2
          · rcases (z7 4 f').mp h1 with h | ⟨rfl, -⟩
            · exact ⟨(q7 f' h h2).1, by have := (q7 f' h h2).2; omega⟩
            · exact ⟨hsv, by have : rk g 4 (some f') = g.R 4 f' + 1 := rfl; omega⟩
          · have hna : ¬ g2.V 4 a := fun z => h3 ((z7 4 a).mpr (Or.inl z))
            have haf : a ≠ f := fun z => h3 ((z7 4 a).mpr (Or.inr ⟨z, Or.inl rfl⟩))
            rw [z8 a (hL.2.2.2 _ _ h1).1 hna haf]
            exact q8 a h1 h2 hna
      refine ⟨fun hm => ?_, fun hm => ?_⟩
      · simp only [wJoin, wIf]
        exact ⟨fun z => absurd z (by decide), fun _ => hput (Or.inl hm)⟩
      · simp only [wJoin, wIf]
        refine ⟨fun _ => ?_, fun z => absurd trivial z⟩
        exact ⟨fun z => hskip (Or.inr trivial), fun z => hput (Or.inr z)⟩
  · have hv1 : v.toInt < (I t 1).toInt := by simp only [i32] at hv; omega
    have hv4 : wIn v 4 := ⟨p4, by omega⟩
    have ev : (v + 1).toInt = v.toInt + 1 := i_add rfl (by decide) (by omega)
    have eix : ix (v + 1) = ix v + 1 := ix_of (by omega)
    simp only [cw hb, ht, hv4, true_and]
    refine wJoin_i (fun K => ∀ F2, Em b g t F F2 → Mt F2 r → (∀ k x, k < ix v + 1 → E t 3 k = some x → ∀ i n c, i < 64 → Sb F n (E x 1 i) c → Mt F2 c) → K (cS b I F2 A E)) (fun F2 z1 z2 z3 => ha _ _ _ (by omega) ⟨F2, rfl, z1, z2, by rw [eix]; exact z3, by omega, by omega, rfl⟩) (fun K hK => ⟨fun hnone => ?_, fun hsome => ?_⟩)
    · refine hK F1 p1 p2 (fun k x hk hx => ?_)
      by_cases hq : k = ix v
      · rw [hq, hnone] at hx; exact absurd hx (by simp)
      · exact p3 k x (by omega) hx
    · obtain ⟨x, hx⟩ := Option.ne_none_iff_exists'.mp hsome
      obtain ⟨x1, x2, x3, x4⟩ := tx _ x hx
      rw [hx, c_recv x1]
      refine c_emptyX hb hL x1 x2 p1 (fun F2 z1 z2 z3 => hK F2 z1 (z2 r p2) (fun k x' hk hx' => ?_))
      by_cases hq : k = ix v
      · rw [hq, hx] at hx'; cases hx'
        exact z3
      · exact fun i n c hi hS => z2 c (p3 k x' (by omega) hx' i n c hi hS)
end C15
