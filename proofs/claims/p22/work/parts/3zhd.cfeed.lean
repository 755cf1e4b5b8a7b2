set_option linter.unusedVariables false
set_option linter.unusedSimpArgs false
/-! the class: feed, and the bytes -/
theorem i8_rg (v : Int8) : -128 ≤ v.toInt32.toInt ∧ v.toInt32.toInt ≤ 127 := by
  have h1 := Int8.le_toInt v
  have h2 := Int8.toInt_lt v
  rw [Int8.toInt_toInt32]
  omega
theorem putK_rg {tp : Nat → Int32} {n : Nat} {p : Int32} (h : ∀ i, -128 ≤ (tp i).toInt ∧ (tp i).toInt ≤ 127) : ∀ k i, -128 ≤ (putK tp n p k i).toInt ∧ (putK tp n p k i).toInt ≤ 127
  | 0, i => h i
  | k + 1, i => by
      unfold putK va_up
      split
      · exact i8_rg _
      · exact putK_rg h k i
theorem feedA_rg {tp : Nat → Int32} {n : Nat} {p1 p2 p3 p4 p5 : Int32} (h : ∀ i, -128 ≤ (tp i).toInt ∧ (tp i).toInt ≤ 127) : ∀ i, -128 ≤ (feedA tp n p1 p2 p3 p4 p5 i).toInt ∧ (feedA tp n p1 p2 p3 p4 p5 i).toInt ≤ 127 := putK_rg (putK_rg (putK_rg (putK_rg (putK_rg h 4) 4) 4) 4) 4
section HD1
variable {b : CT} {I : Nat → Nat → Int32} {F : Nat → Nat → Option Nat} {A : Nat → Nat → Nat → Int32} {E : Nat → Nat → Nat → Option Nat} {o n : Nat} {p : Int32} {X X' : String → HS → Prop} {Q Q' : HS → Prop} {QI QI' : Int32 → HS → Prop}
theorem qc_astB {ci a j : Nat} {i v : Int32} (hb : CB b) (hi : Is b ci a) (hk : oF ci j = 21) {Z Z' : HS → Prop} (h : wIn i (oL ci j) → Z (cS b I F (up3 A a j (ix i) v.toInt8.toInt32) E) → Z' (cS b I F (up3 A a j (ix i) v.toInt8.toInt32) E)) : wAstB (cS b I F A E) (some (b.ad a j)) i v Z → wAstB (cS b I F A E) (some (b.ad a j)) i v Z' := by
  rw [c_astB hb hi hk, c_astB hb hi hk]; exact qv_and h
theorem qf_put (hb : CB b) (ho : Is b 11 o) (hn : (I o 9).toInt = (n : Int)) (hn4 : n + 4 ≤ 400) (h : ∀ I' A', (I' o 9).toInt = ((n + 4 : Nat) : Int) → A' o 0 = putK (A o 0) n p 4 → Q (cS b I' F A' E) → Q' (cS b I' F A' E)) : w_X11_putBytes (some o) p (cS b I F A E) Q X → w_X11_putBytes (some o) p (cS b I F A E) Q' X' := by
  unfold w_X11_putBytes
  refine qc_loop (fun (v : Int32) b' I' F' A' E' => b' = b ∧ F' = F ∧ E' = E ∧ ∃ k : Nat, v.toInt = 24 - 8 * (k : Int) ∧ k ≤ 4 ∧ (I' o 9).toInt = ((n + k : Nat) : Int) ∧ A' o 0 = putK (A o 0) n p k) ⟨rfl, rfl, rfl, 0, by decide, by omega, hn, rfl⟩ (fun v b' I' F' A' E' again again' ⟨e1, e2, e3, k, k1, k2, k3, k4⟩ ha => ?_)
  subst e1; subst e2; subst e3
  dsimp only [wJoin]
  refine qv_if (fun z => ?_) (fun z => ?_)
  · rw [i32.1, show (0 : Int32).toInt = 0 by decide] at z
    have e4 : k = 4 := by omega
    rw [e4] at k3 k4
    exact h I' A' k3 k4
  rw [i32.1, show (0 : Int32).toInt = 0 by decide] at z
  refine qc_getI (fun _ => qv_if (fun z2 => ?_) (fun _ => ?_))
  · exfalso
    rw [i32.2.1, k3, show (400 : Int32).toInt = 400 by decide] at z2
    omega
  refine qc_getA hb (by decide) (fun _ => qc_getI (fun _ => qc_astB hb ho (by decide) (fun _ => qc_getI (fun _ => qc_putI (fun _ => ?_)))))
  rw [ix_of k3]
  refine ha _ _ _ _ _ _ ⟨rfl, rfl, rfl, k + 1, ?_, by omega, ?_, ?_⟩
  · rw [i_add k1 (show (-8 : Int32).toInt = -8 by decide) (by omega)]; omega
  · rw [up2_self, i_add k3 (show (1 : Int32).toInt = 1 by decide) (by omega)]; omega
  · rw [up3_at, k4, ofI k1]; rfl
theorem qf_feed {p1 p2 p3 p4 p5 : Int32} (hb : CB b) (ho : Is b 11 o) (hn : (I o 9).toInt = (n : Int)) (h1 : ∀ r I' A', n ≤ 380 → A' o 0 = feedA (A o 0) n p1 p2 p3 p4 p5 → QI r (cS b I' F A' E) → QI' r (cS b I' F A' E)) (h0 : ¬ n ≤ 380 → X eIB (cS (b.B.wC (b.B.c - 1) (b.B.z - 6), b.2) I F A E) → X' eIB (cS (b.B.wC (b.B.c - 1) (b.B.z - 6), b.2) I F A E)) : w_X11_feed (some o) p1 p2 p3 p4 p5 (cS b I F A E) QI X → w_X11_feed (some o) p1 p2 p3 p4 p5 (cS b I F A E) QI' X' := by
  unfold w_X11_feed
  refine qc_getI (fun _ => qv_if (fun z => ?_) (fun z => qc_throw (h0 (fun y => z ?_))))
  · rw [i32.2.1, hn, show (380 : Int32).toInt = 380 by decide] at z
    have hn380 : n ≤ 380 := by omega
    refine qc_recv (fun _ => qf_put hb ho hn (by omega) (fun I1 A1 j1 a1 => ?_))
    refine qc_recv (fun _ => qf_put hb ho j1 (by omega) (fun I2 A2 j2 a2 => ?_))
    refine qc_recv (fun _ => qf_put hb ho j2 (by omega) (fun I3 A3 j3 a3 => ?_))
    refine qc_recv (fun _ => qf_put hb ho j3 (by omega) (fun I4 A4 j4 a4 => ?_))
    refine qc_recv (fun _ => qf_put hb ho j4 (by omega) (fun I5 A5 j5 a5 => ?_))
    refine qc_getI (fun _ => h1 _ I5 A5 hn380 ?_)
    rw [a5, a4, a3, a2, a1]; rfl
  · rw [i32.2.1, hn, show (380 : Int32).toInt = 380 by decide]; omega
end HD1
theorem kq_feed {o N : Nat} {qa : AT3} {x : HS} (hk : KQ o (N + 1) qa x) (hW : AVW qa.1) (p1 p2 p3 p4 p5 : Int32) : w_X11_feed (some o) p1 p2 p3 p4 p5 x (fun r u => OKq_feed qa p1 p2 p3 p4 p5 0 r ∧ KQ o N (nxq_feed qa p1 p2 p3 p4 p5) u) (fun E u => (E = eIB ∧ OKq_feed qa p1 p2 p3 p4 p5 1 0) ∧ KQ o N (nxq_feed qa p1 p2 p3 p4 p5) u) := by
  have hrg := QR_rg hk.2
  have hkz := kz_feed hk.1 hW p1 p2 p3 p4 p5
  have htl := hk.1.1.1.2.2
  obtain ⟨K, hv, hfr⟩ := QR_K hk.2
  obtain ⟨b, I, F, A, E, rfl, hb, r, v, lt, sp, ⟨i1, -⟩, -, -, ⟨t1, -⟩, -⟩ := hk.2
  have hn : (I o 9).toInt = (qa.1.tl.toInt.toNat : Int) := by
    have e : I o 9 = qa.1.tl := htl.1
    have e2 : 0 ≤ qa.1.tl.toInt := htl.2.1
    rw [e]; omega
  have hle : qa.1.tl.toInt.toNat ≤ 380 ↔ qa.1.tl.toInt ≤ 380 := by
    have e2 : 0 ≤ qa.1.tl.toInt := htl.2.1
    omega
  have etp : ∀ {b2 : CT} {I2 : Nat → Nat → Int32} {A2 : Nat → Nat → Nat → Int32} {t : Nat}, b2.2 = b.2 → cF b F o 0 = some t → (cS b2 I2 F A2 E).J t = A2 o 0 := fun {b2 I2 A2 t} e2 ht => by
    rw [cF_ow hb i1 (by decide)] at ht
    have ht := Option.some.inj ht
    rw [← ht]
    funext i
    show cJ b2 A2 (b.ad o 0) i = A2 o 0 i
    have ho := (c_arr hb i1 (j := 0) (by decide)).1
    have ho : b2.own (b.ad o 0) = some (o, 0) := by rw [show b2.own = b.own from congrArg Prod.snd e2]; exact ho
    unfold cJ
    rw [ho]
  refine fk_X11_feed (K := K) (x0 := cS b I F A E) (fun r u hu hq => ?_) (fun e u hu hq => ?_) hv (qf_feed (n := qa.1.tl.toInt.toNat) (QI' := fun r u => (OK_feed qa.1 p1 p2 p3 p4 p5 0 r ∧ KZ o N (nx_feed qa.1 p1 p2 p3 p4 p5) u) ∧ qa.1.tl.toInt ≤ 380 ∧ ∀ t, cF b F o 0 = some t → u.J t = feedA qa.tp qa.1.tl.toInt.toNat p1 p2 p3 p4 p5) (X' := fun e u => ((e = eIB ∧ OK_feed qa.1 p1 p2 p3 p4 p5 1 0) ∧ KZ o N (nx_feed qa.1 p1 p2 p3 p4 p5) u) ∧ ¬ qa.1.tl.toInt ≤ 380 ∧ ∀ t, cF b F o 0 = some t → u.J t = qa.tp) hb i1 hn (fun r I' A' hl ha hq => ⟨hq, hle.mp hl, fun t ht => ?_⟩) (fun hl hq => ⟨hq, fun y => hl (hle.mpr y), fun t ht => ?_⟩) hkz)
  · refine ⟨hq.1.1, hq.1.2, ?_⟩
    show QR3 o (nx_feed qa.1 p1 p2 p3 p4 p5, (if qa.1.tl.toInt ≤ 380 then feedA qa.tp qa.1.tl.toInt.toNat p1 p2 p3 p4 p5 else qa.tp), qa.2.2) u
    rw [if_pos hq.2.1]
    exact hfr u _ _ hu (fun t h1 h2 h3 h4 => hq.2.2 t h3) (feedA_rg hrg) (KZ_cS hq.1.2)
  · refine ⟨hq.1.1, hq.1.2, ?_⟩
    show QR3 o (nx_feed qa.1 p1 p2 p3 p4 p5, (if qa.1.tl.toInt ≤ 380 then feedA qa.tp qa.1.tl.toInt.toNat p1 p2 p3 p4 p5 else qa.tp), qa.2.2) u
    rw [if_neg hq.2.1]
    exact hfr u _ _ hu (fun t h1 h2 h3 h4 => hq.2.2 t h3) hrg (KZ_cS hq.1.2)
  · rw [etp rfl ht, ha, t1]
  · exact (etp (b2 := (b.B.wC (b.B.c - 1) (b.B.z - 6), b.2)) (I2 := I) (A2 := A) rfl ht).trans t1
