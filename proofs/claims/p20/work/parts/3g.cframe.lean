set_option linter.unusedVariables false
set_option linter.unusedSimpArgs false
/-! the class: what must not change, part by part -/
def sI (b : CT) (S : List (Nat × Nat)) (I I' : Nat → Nat → Int32) : Prop := ∀ ci x j, Is b ci x → (ci, j) ∈ S → I' x j = I x j
def sF (b : CT) (S : List (Nat × Nat)) (F F' : Nat → Nat → Option Nat) : Prop := ∀ ci x j, Is b ci x → (ci, j) ∈ S → F' x j = F x j
def sA (b : CT) (S : List (Nat × Nat)) (A A' : Nat → Nat → Nat → Int32) : Prop := ∀ ci x j, Is b ci x → (ci, j) ∈ S → A' x j = A x j
def sE (b : CT) (S : List (Nat × Nat)) (E E' : Nat → Nat → Nat → Option Nat) : Prop := ∀ ci x j, Is b ci x → (ci, j) ∈ S → E' x j = E x j
section VG1
variable {b b' : CT} {I I' : Nat → Nat → Int32} {F F' : Nat → Nat → Option Nat} {A A' : Nat → Nat → Nat → Int32} {E E' : Nat → Nat → Nat → Option Nat} {o t n n' k f c p x w j ci q s h l : Nat} {a : AS} {g : CGs} {lk d r ct fa : Nat → Nat} {S : List (Nat × Nat)}
theorem sI_rf : sI b S I I := fun _ _ _ _ _ => rfl
theorem sF_rf : sF b S F F := fun _ _ _ _ _ => rfl
theorem sA_rf : sA b S A A := fun _ _ _ _ _ => rfl
theorem sE_rf : sE b S E E := fun _ _ _ _ _ => rfl
theorem sI_up {v : Int32} (h : sI b S I I') (hx : Is b ci x) (hj : (ci, j) ∉ S) : sI b S I (up2 I' x j v) := fun c' x' j' hx' hj' => by
  rw [← h c' x' j' hx' hj']
  exact if_neg (fun z => hj (by rw [← hx.2, ← z.1, hx'.2, ← z.2]; exact hj'))
theorem sF_up {v : Option Nat} (h : sF b S F F') (hx : Is b ci x) (hj : (ci, j) ∉ S) : sF b S F (up2 F' x j v) := fun c' x' j' hx' hj' => by
  rw [← h c' x' j' hx' hj']
  exact if_neg (fun z => hj (by rw [← hx.2, ← z.1, hx'.2, ← z.2]; exact hj'))
theorem sA_up {i : Nat} {v : Int32} (h : sA b S A A') (hx : Is b ci x) (hj : (ci, j) ∉ S) : sA b S A (up3 A' x j i v) := fun c' x' j' hx' hj' => by
  rw [← h c' x' j' hx' hj']
  exact up3_ne (fun z => hj (by rw [← hx.2, ← z.1, hx'.2, ← z.2]; exact hj'))
theorem sE_up {i : Nat} {v : Option Nat} (h : sE b S E E') (hx : Is b ci x) (hj : (ci, j) ∉ S) : sE b S E (up3 E' x j i v) := fun c' x' j' hx' hj' => by
  rw [← h c' x' j' hx' hj']
  exact up3_ne (fun z => hj (by rw [← hx.2, ← z.1, hx'.2, ← z.2]; exact hj'))
/-- only a look has changed -/
theorem sI_q {js : List Nat} (hq : Is b 5 q) (h : Iq q js I I') (hS : ∀ j, (5, j) ∉ S) : sI b S I I' := fun c' x' j' hx' hj' => by
  rw [h.1 x' (fun z => hS j' (by rw [← hq.2, ← z, hx'.2]; exact hj'))]
theorem CXs_eq (hx : CXs b o s h l lk F E) (hb : ∀ ci x, Is b ci x → Is b' ci x) (hb8 : ∀ x, Is b' 8 x → Is b 8 x) (hF : sF b [(11, 2), (9, 2), (11, 6)] F F') (hE : sE b [(11, 3), (8, 3)] E E') : CXs b' o s h l lk F' E' := by
  obtain ⟨h1, h2, h3, h4, h5, h6, h7, h8, h9, h10⟩ := hx
  refine ⟨hb _ _ h1, by rw [hF 11 o 2 h1 (by decide)]; exact h2, hb _ _ h3, by rw [hF 9 s 2 h3 (by decide)]; exact h4, hb _ _ h5, by rw [hF 11 o 6 h1 (by decide)]; exact h6, hb _ _ h7, fun c hc => ?_, h9, fun v i q hv hq => ?_⟩
  · rw [hE 11 o 3 h1 (by decide)]
    obtain ⟨y1, y2, y3⟩ := h8 c hc
    exact ⟨y1, hb _ _ y2, y3⟩
  · rw [hE 8 v 3 (hb8 v hv) (by decide)] at hq
    exact h10 v i q (hb8 v hv) hq
theorem CXt_eq (hx : CXt a b s d r ct I F A E) (hs : Is b 9 s) (hb : ∀ ci x, Is b ci x → Is b' ci x) {ct' : Nat → Nat} (hct : ∀ c, Is b 0 c → ct' c = ct c) (hI : sI b [(9, 3), (10, 0), (10, 1), (10, 5), (0, 0)] I I') (hF : sF b [(10, 2)] F F') (hA : sA b [(10, 4)] A A') (hE : sE b [(9, 0)] E E') : CXt a b' s d r ct' I' F' A' E' := by
  refine ⟨by rw [hI 9 s 3 hs (by decide)]; exact hx.1, fun t ht => ?_⟩
  obtain ⟨t1, t2, t3, t4, t5, t6, t7, t8, t9, t10⟩ := hx.2 t ht
  rw [hE 9 s 0 hs (by decide), hI 10 _ 0 t2 (by decide), hI 10 _ 1 t2 (by decide), hI 10 _ 5 t2 (by decide), hF 10 _ 2 t2 (by decide), hA 10 _ 4 t2 (by decide), hI 0 _ 0 t6 (by decide), hct _ t6]
  exact ⟨t1, hb _ _ t2, t3, t4, t5, hb _ _ t6, t7, t8, t9, t10⟩
theorem CF1_eq (hx : CF1 a b d fa I F A t n) (hb : ∀ ci x, Is b ci x → Is b' ci x) (hI : sI b [(1, 4), (1, 5), (1, 6)] I I') (hF : sF b [(1, 2)] F F') (hA : sA b [(1, 0)] A A') : CF1 a b' d fa I' F' A' t n := by
  obtain ⟨h1, h2, h3, h4, h5, h6⟩ := hx
  unfold CF1
  rw [hF 1 _ 2 h1 (by decide), hA 1 _ 0 h1 (by decide), hI 1 _ 4 h1 (by decide), hI 1 _ 5 h1 (by decide), hI 1 _ 6 h1 (by decide)]
  exact ⟨hb _ _ h1, h2, h3, h4, h5, h6⟩
theorem CXr_eq (hx : CXr a b d r ct fa I F E) (hd : ∀ t, inT a t → Is b 10 (d t)) (hfa : ∀ t n, n ∈ a.rw t → Is b 1 (fa n)) (hI : sI b [(0, 0), (0, 1), (4, 0)] I I') (hF : sF b [(0, 2), (0, 3), (0, 4)] F F') (hE : sE b [(1, 1), (4, 1), (10, 3)] E E') : CXr a b d r ct fa I' F' E' := by
  obtain ⟨h1, h2, h3, h4⟩ := hx
  have e0 : ∀ c, Is b 0 c → I' c 0 = I c 0 := fun c hc => hI 0 c 0 hc (by decide)
  have e1 : ∀ c, Is b 0 c → I' c 1 = I c 1 := fun c hc => hI 0 c 1 hc (by decide)
  have ed : ∀ t, inT a t → E' (d t) 3 = E (d t) 3 := fun t ht => hE 10 _ 3 (hd t ht) (by decide)
  refine ⟨fun c hc => ?_, ⟨fun c hc => ?_, fun c c' hc hc' => ?_⟩, ⟨fun t k x ht hk hx => ?_, fun t t' k k' x ht ht' hk hk' hx hx' => ?_⟩, fun t k n ht hk hne hn => ?_⟩
  · obtain ⟨y1, y2⟩ := h1 c hc
    have y1 : LnO (fun q => E q 1 (ix (I c 0))) (F c 3) ((rowL a (ct c) (ix (I c 0)) (I c 1)).map fa) := y1
    have y2 : F c 4 = ((rowL a (ct c) (ix (I c 0)) (I c 1)).map fa).getLast? := y2
    show LnO (fun q => E' q 1 (ix (I' c 0))) (F' c 3) ((rowL a (ct c) (ix (I' c 0)) (I' c 1)).map fa) ∧ F' c 4 = ((rowL a (ct c) (ix (I' c 0)) (I' c 1)).map fa).getLast?
    rw [e0 c hc, e1 c hc, hF 0 c 3 hc (by decide), hF 0 c 4 hc (by decide)]
    refine ⟨LnO_congr (fun q hq => ?_) y1, y2⟩
    obtain ⟨n, hn, rfl⟩ := List.mem_map.mp hq
    have hn' : n ∈ a.rw (ct c) := by
      unfold rowL at hn
      split at hn
      · exact hn
      · exact (List.mem_filter.mp hn).1
    rw [hE 1 _ 1 (hfa _ n hn') (by decide)]
  · obtain ⟨y1, y2, y3, y4⟩ := h2.1 c hc
    rw [e0 c hc, ed _ y1]
    exact ⟨y1, y2, y3, y4⟩
  · rw [e0 c hc, e0 c' hc', e1 c hc, e1 c' hc']
    exact h2.2 c c' hc hc'
  · rw [ed t ht] at hx
    obtain ⟨y1, y2, y3, y4⟩ := h3.1 t k x ht hk hx
    rw [hI 4 x 0 y1 (by decide)]
    refine ⟨y1, y2, y3, fun i hi => ?_⟩
    obtain ⟨C, hC, hm⟩ := y4 i hi
    refine ⟨C, ?_, fun c => ?_⟩
    · rw [hE 4 x 1 y1 (by decide)]
      exact LnO_congr (fun c hc => hF 0 c 2 ((hm c).mp hc).1 (by decide)) hC
    · rw [hm c]
      constructor
      · rintro ⟨z1, z2, z3, z4⟩
        rw [e0 c z1, e1 c z1]; exact ⟨z1, z2, z3, z4⟩
      · rintro ⟨z1, z2, z3, z4⟩
        rw [e0 c z1] at z3
        rw [e1 c z1] at z4
        exact ⟨z1, z2, z3, z4⟩
  · rw [ed t ht] at hx
    rw [ed t' ht'] at hx'
    exact h3.2 t t' k k' x ht ht' hk hk' hx hx'
  · rw [ed t ht] at hne
    obtain ⟨c, c1, c2, c3, c4⟩ := h4 t k n ht hk hne hn
    exact ⟨c, c1, c2, by rw [e0 c c1]; exact c3, by rw [e1 c c1]; exact c4⟩
theorem CXk_eq (hx : CXk a b s fa E) (hs : Is b 9 s) (hb : ∀ ci x, Is b ci x → Is b' ci x) (hE : sE b [(9, 1)] E E') : CXk a b' s fa E' := by
  obtain ⟨h1, h2, h3, h4⟩ := hx
  unfold CXk
  rw [hE 9 s 1 hs (by decide)]
  exact ⟨fun i q hi hq => hb _ _ (h1 i q hi hq), h2, h3, h4⟩
theorem CXn_eq (hx : CXn a s I) (hs : Is b 9 s) (hI : sI b [(9, 4), (9, 5), (9, 6), (9, 7)] I I') : CXn a s I' := by
  unfold CXn
  rw [hI 9 s 4 hs (by decide), hI 9 s 5 hs (by decide), hI 9 s 6 hs (by decide), hI 9 s 7 hs (by decide)]
  exact hx
theorem CXh_eq {sz : Nat} (hx : CXh a h sz fa I F A E) (hh : Is b 3 h) (hfa : ∀ t n, n ∈ a.rw t → Is b 1 (fa n)) (hI : sI b [(3, 3), (3, 4)] I I') (hF : sF b [(1, 3)] F F') (hA : sA b [(3, 1), (3, 2)] A A') (hE : sE b [(3, 0)] E E') : CXh a h sz fa I' F' A' E' := by
  obtain ⟨h1, h2, h3, h4, h5⟩ := hx
  unfold CXh
  rw [hI 3 h 3 hh (by decide), hI 3 h 4 hh (by decide), hA 3 h 1 hh (by decide), hA 3 h 2 hh (by decide), hE 3 h 0 hh (by decide)]
  refine ⟨h1, h2, h3, h4, fun t n hn hb => ?_⟩
  rw [hF 1 _ 3 (hfa t n hn) (by decide)]; exact h5 t n hn hb
theorem Lk1_eq {ov : Bool} {m : Int32} {T : Int} {la : Option Nat} {vs : Nat → Int32} (hx : Lk1 a q t ov m T la vs d fa I F A) (hI : ∀ j, j ∈ [3, 4, 6] → I' q j = I q j) (hF : ∀ j, j ∈ [2, 5] → F' q j = F q j) (hA : ∀ k, k < 4 → A' q 1 k = A q 1 k) : Lk1 a q t ov m T la vs d fa I' F' A' := by
  obtain ⟨h1, h2, h3, h4, h5, h6, h7, h8⟩ := hx
  unfold Lk1
  rw [hI 3 (by decide), hI 4 (by decide), hI 6 (by decide), hF 2 (by decide), hF 5 (by decide)]
  exact ⟨h1, h2, h3, h4, h5, h6, fun k hk => by rw [hA k hk]; exact h7 k hk, h8⟩
/-- the cursors' looks stay -/
def sK (lk : Nat → Nat) (I I' : Nat → Nat → Int32) (F F' : Nat → Nat → Option Nat) (A A' : Nat → Nat → Nat → Int32) : Prop := ∀ c, c < 10 → I' (lk c) = I (lk c) ∧ F' (lk c) = F (lk c) ∧ A' (lk c) = A (lk c)
theorem sK_rf : sK lk I I F F A A := fun _ _ => ⟨rfl, rfl, rfl⟩
theorem CXc_eq (hx : CXc a o lk d fa I F A) (ho : Is b 11 o) (hA : sA b [(11, 4)] A A') (hk : sK lk I I' F F' A A') : CXc a o lk d fa I' F' A' := fun c hc => by
  rw [hA 11 o 4 ho (by decide)]
  obtain ⟨h1, h2⟩ := hx c hc
  obtain ⟨k1, k2, k3⟩ := hk c hc
  refine ⟨h1, fun hop => ?_⟩
  obtain ⟨y1, y2⟩ := h2 hop
  exact ⟨Lk1_eq y1 (fun j _ => by rw [k1]) (fun j _ => by rw [k2]) (fun k _ => by rw [k3]), by rw [k1]; exact y2⟩
theorem CXo_eq (hx : CXo a o I A) (ho : Is b 11 o) (hI : sI b [(11, 10)] I I') (hA : sA b [(11, 1), (11, 5)] A A') : CXo a o I' A' := by
  unfold CXo
  rw [hI 11 o 10 ho (by decide), hA 11 o 1 ho (by decide), hA 11 o 5 ho (by decide)]
  exact hx
def cxI : List (Nat × Nat) := [(9, 3), (10, 0), (10, 1), (10, 5), (0, 0), (0, 1), (4, 0), (1, 4), (1, 5), (1, 6), (9, 4), (9, 5), (9, 6), (9, 7), (3, 3), (3, 4), (11, 10)]
def cxF : List (Nat × Nat) := [(11, 2), (9, 2), (11, 6), (10, 2), (1, 2), (0, 2), (0, 3), (0, 4), (1, 3)]
def cxA : List (Nat × Nat) := [(10, 4), (1, 0), (3, 1), (3, 2), (11, 4), (11, 1), (11, 5)]
def cxE : List (Nat × Nat) := [(11, 3), (8, 3), (9, 0), (1, 1), (4, 1), (10, 3), (9, 1), (3, 0)]
theorem sI_mono {S' : List (Nat × Nat)} (h : sI b S I I') (hs : ∀ p, p ∈ S' → p ∈ S) : sI b S' I I' := fun c x j hx hj => h c x j hx (hs _ hj)
theorem sF_mono {S' : List (Nat × Nat)} (h : sF b S F F') (hs : ∀ p, p ∈ S' → p ∈ S) : sF b S' F F' := fun c x j hx hj => h c x j hx (hs _ hj)
theorem sA_mono {S' : List (Nat × Nat)} (h : sA b S A A') (hs : ∀ p, p ∈ S' → p ∈ S) : sA b S' A A' := fun c x j hx hj => h c x j hx (hs _ hj)
theorem sE_mono {S' : List (Nat × Nat)} (h : sE b S E E') (hs : ∀ p, p ∈ S' → p ∈ S) : sE b S' E E' := fun c x j hx hj => h c x j hx (hs _ hj)
/-- nothing that counts has changed -/
theorem CXx_eq (hx : CXx o a g b I F A E) (hI : sI b cxI I I') (hF : sF b cxF F F') (hA : sA b cxA A A') (hE : sE b cxE E E') (hk : sK g.lk I I' F F' A A') : CXx o a g b I' F' A' E' := by
  obtain ⟨hb, hs, ht, hFa, hR, hK, hN, hH, hC, hO⟩ := hx
  have hd : ∀ t, inT a t → Is b 10 (g.d t) := fun t h => (ht.2 t h).2.1
  have hfa : ∀ t n, n ∈ a.rw t → Is b 1 (g.fa n) := fun t n h => (hFa t n h).1
  exact ⟨hb, CXs_eq hs (fun _ _ h => h) (fun _ h => h) (sF_mono hF (by decide)) (sE_mono hE (by decide)), CXt_eq ht hs.2.2.1 (fun _ _ h => h) (fun _ _ => rfl) (sI_mono hI (by decide)) (sF_mono hF (by decide)) (sA_mono hA (by decide)) (sE_mono hE (by decide)), fun t n hn => CF1_eq (hFa t n hn) (fun _ _ h => h) (sI_mono hI (by decide)) (sF_mono hF (by decide)) (sA_mono hA (by decide)), CXr_eq hR hd hfa (sI_mono hI (by decide)) (sF_mono hF (by decide)) (sE_mono hE (by decide)), CXk_eq hK hs.2.2.1 (fun _ _ h => h) (sE_mono hE (by decide)), CXn_eq hN hs.2.2.1 (sI_mono hI (by decide)), CXh_eq hH hs.2.2.2.2.1 hfa (sI_mono hI (by decide)) (sF_mono hF (by decide)) (sA_mono hA (by decide)) (sE_mono hE (by decide)), CXc_eq hC hs.1 (sA_mono hA (by decide)) hk, CXo_eq hO hs.1 (sI_mono hI (by decide)) (sA_mono hA (by decide))⟩
end VG1
