/-! THE HEAP AS FOUR MAPS: an object's ints (I) and references (F) by address and field, an array's ints (J) and references (G) by address and place; k: what stands at an address (a class's number, or 20 and on: an array), n: an array's length -/
def up2 {α : Type} (f : Nat → Nat → α) (a k : Nat) (v : α) : Nat → Nat → α := fun b j => if b = a ∧ j = k then v else f b j
theorem up2_self {α : Type} (f : Nat → Nat → α) (a k : Nat) (v : α) : up2 f a k v a k = v := if_pos ⟨rfl, rfl⟩
theorem up2_a {α : Type} (f : Nat → Nat → α) {a b : Nat} (k j : Nat) (v : α) (h : b ≠ a) : up2 f a k v b j = f b j := if_neg (fun q => h q.1)
theorem up2_k {α : Type} (f : Nat → Nat → α) (a b : Nat) {k j : Nat} (v : α) (h : j ≠ k) : up2 f a k v b j = f b j := if_neg (fun q => h q.2)
theorem up2_row {α : Type} (f : Nat → Nat → α) {a b : Nat} (k : Nat) (v : α) (h : b ≠ a) : up2 f a k v b = f b := funext fun j => up2_a f k j v h
/-- the fields of a class that are ints, and how many fields it has -/
abbrev hpInt (ci : Nat) : List Bool := match ci with
  | 0 => [true, true, false, false, false]
  | 1 => [false, false, false, false, true, true, true]
  | 2 => [false, false, true, false, true, true]
  | 3 => [false, false, false, true, true]
  | 4 => [true, false]
  | 5 => [true, false, false, true, true, false, true, true]
  | 6 => [false, true, true, true, false, true, true, false]
  | 7 => [false, true, true]
  | 8 => [false, true, false, false, false, false, false, true]
  | 9 => [false, false, false, true, true, true, true, true]
  | 10 => [true, true, false, false, false, true]
  | 11 => [false, false, false, false, false, false, false, false, false, true, true, true]
  | 12 => [true, false, true, false, false, false, false, false, false, false, true, false, false, false, false, false, false, false, false, false, true, true, true, true, false, true, false, true, false, false, false, false, false, false, false, false, false, true, true, true, true, true, true, true, false, false, false, false, false, true, false, false, false, false, false, true, true]
  | _ => []
def hpFs (ci : Nat) (i : Nat → Int32) (f : Nat → Option Nat) : List Value := (hpInt ci).zipIdx.map (fun q => if q.1 then .int (i q.2) else va_rf (f q.2))
/-- what stands at an address -/
def hp (cA : Nat → ClassId) (k n : Nat → Nat) (I : Nat → Nat → Int32) (F : Nat → Nat → Option Nat) (J : Nat → Nat → Int32) (G : Nat → Nat → Option Nat) : Nat → va_E := fun a =>
  if k a < 20 then .inr (k a, hpFs (k a) (I a) (F a)) else if k a < 23 then .inl (cA (k a), n a, .inl (J a)) else if k a < 24 then .inl (cA (k a), n a, .inr (.inl (fun i => (J a i).toInt64))) else .inl (cA (k a), n a, .inr (.inr (.inr (.inr (G a)))))
section HPA
variable {cA : Nat → ClassId} {k n : Nat → Nat} {I : Nat → Nat → Int32} {F : Nat → Nat → Option Nat} {J : Nat → Nat → Int32} {G : Nat → Nat → Option Nat} {a : Nat}
theorem hp_o (h : k a < 20) : hp cA k n I F J G a = .inr (k a, hpFs (k a) (I a) (F a)) := if_pos h
theorem hp_j (h : ¬ k a < 20) (h2 : k a < 23) : hp cA k n I F J G a = .inl (cA (k a), n a, .inl (J a)) := by rw [hp, if_neg h, if_pos h2]
theorem hp_l (h : k a = 23) : hp cA k n I F J G a = .inl (cA 23, n a, .inr (.inl (fun i => (J a i).toInt64))) := by rw [hp, if_neg (by rw [h]; decide), if_neg (by rw [h]; decide), if_pos (by rw [h]; decide), h]
theorem hp_g (h2 : ¬ k a < 24) : hp cA k n I F J G a = .inl (cA (k a), n a, .inr (.inr (.inr (.inr (G a))))) := by rw [hp, if_neg (fun q => h2 (by omega)), if_neg (fun q => h2 (by omega)), if_neg h2]
theorem hpFs_get {ci j : Nat} {i : Nat → Int32} {f : Nat → Option Nat} {b : Bool} (h : (hpInt ci)[j]? = some b) : (hpFs ci i f)[j]? = some (if b then .int (i j) else va_rf (f j)) := by
  rw [hpFs, List.getElem?_map, List.getElem?_zipIdx, h]
  show some (if b then Value.int (i (0 + j)) else va_rf (f (0 + j))) = _
  rw [Nat.zero_add]
theorem hpFs_len {ci : Nat} {i : Nat → Int32} {f : Nat → Option Nat} : (hpFs ci i f).length = (hpInt ci).length := by rw [hpFs, List.length_map, List.length_zipIdx]
theorem hpFs_none {ci j : Nat} {i : Nat → Int32} {f : Nat → Option Nat} (h : (hpInt ci)[j]? = none) : (hpFs ci i f)[j]? = none := by
  rw [List.getElem?_eq_none_iff] at h ⊢
  rw [hpFs_len]; exact h
theorem hpFs_setI {ci j : Nat} {i : Nat → Int32} {f : Nat → Option Nat} {v : Int32} (h : (hpInt ci)[j]? = some true) : (hpFs ci i f).set j (.int v) = hpFs ci (fun q => if q = j then v else i q) f := by
  apply List.ext_getElem?
  intro q
  have hl : j < (hpFs ci i f).length := by rw [hpFs_len]; exact (List.getElem?_eq_some_iff.mp h).1
  rw [List.getElem?_set]
  by_cases hq : j = q
  · subst hq
    rw [if_pos rfl, if_pos hl, hpFs_get h]
    simp
  · rw [if_neg hq]
    cases hb : (hpInt ci)[q]? with
    | none => rw [hpFs_none hb, hpFs_none hb]
    | some b =>
      have hz : ¬ q = j := fun z => hq z.symm
      rw [hpFs_get hb, hpFs_get hb]
      simp only [if_neg hz]
theorem hpFs_setF {ci j : Nat} {i : Nat → Int32} {f : Nat → Option Nat} {v : Option Nat} (h : (hpInt ci)[j]? = some false) : (hpFs ci i f).set j (va_rf v) = hpFs ci i (fun q => if q = j then v else f q) := by
  apply List.ext_getElem?
  intro q
  have hl : j < (hpFs ci i f).length := by rw [hpFs_len]; exact (List.getElem?_eq_some_iff.mp h).1
  rw [List.getElem?_set]
  by_cases hq : j = q
  · subst hq
    rw [if_pos rfl, if_pos hl, hpFs_get h]
    simp
  · rw [if_neg hq]
    cases hb : (hpInt ci)[q]? with
    | none => rw [hpFs_none hb, hpFs_none hb]
    | some b =>
      have hz : ¬ q = j := fun z => hq z.symm
      rw [hpFs_get hb, hpFs_get hb]
      simp only [if_neg hz]
theorem hp_setI {j : Nat} {v : Int32} (hk : k a < 20) (h : (hpInt (k a))[j]? = some true) : va_up (hp cA k n I F J G) a (.inr (k a, (hpFs (k a) (I a) (F a)).set j (.int v))) = hp cA k n (up2 I a j v) F J G := by
  funext b
  by_cases hb : b = a
  · subst hb
    rw [va_up_self, hp_o hk, hpFs_setI h]
    have : (fun q => if q = j then v else I b q) = up2 I b j v b := funext fun q => by simp [up2]
    rw [this]
  · rw [va_up_ne _ _ hb]
    simp only [hp, up2_row I j v hb]
theorem hp_setF {j : Nat} {v : Option Nat} (hk : k a < 20) (h : (hpInt (k a))[j]? = some false) : va_up (hp cA k n I F J G) a (.inr (k a, (hpFs (k a) (I a) (F a)).set j (va_rf v))) = hp cA k n I (up2 F a j v) J G := by
  funext b
  by_cases hb : b = a
  · subst hb
    rw [va_up_self, hp_o hk, hpFs_setF h]
    have : (fun q => if q = j then v else F b q) = up2 F b j v b := funext fun q => by simp [up2]
    rw [this]
  · rw [va_up_ne _ _ hb]
    simp only [hp, up2_row F j v hb]
theorem hp_setJ {j : Nat} {v : Int32} (hk : ¬ k a < 20) (h2 : k a < 23) : va_up (hp cA k n I F J G) a (.inl (cA (k a), n a, .inl (upd (J a) j v))) = hp cA k n I F (up2 J a j v) G := by
  funext b
  by_cases hb : b = a
  · subst hb
    rw [va_up_self, hp_j hk h2]
    have : upd (J b) j v = up2 J b j v b := funext fun q => by simp [up2, upd]
    rw [this]
  · rw [va_up_ne _ _ hb]
    simp only [hp, up2_row J j v hb]
theorem hp_setG {j : Nat} {v : Option Nat} (h2 : ¬ k a < 24) : va_up (hp cA k n I F J G) a (.inl (cA (k a), n a, .inr (.inr (.inr (.inr (va_up (G a) j v)))))) = hp cA k n I F J (up2 G a j v) := by
  funext b
  by_cases hb : b = a
  · subst hb
    rw [va_up_self, hp_g h2]
    have : va_up (G b) j v = up2 G b j v b := funext fun q => by simp [up2, va_up]
    rw [this]
  · rw [va_up_ne _ _ hb]
    simp only [hp, up2_row G j v hb]
theorem hp_setL {j : Nat} {v : Int32} (h : k a = 23) : va_up (hp cA k n I F J G) a (.inl (cA 23, n a, .inr (.inl (vp_updL (fun i => (J a i).toInt64) j v.toInt64)))) = hp cA k n I F (up2 J a j v) G := by
  funext b
  by_cases hb : b = a
  · subst hb
    rw [va_up_self, hp_l h]
    have : vp_updL (fun i => (J b i).toInt64) j v.toInt64 = fun i => (up2 J b j v b i).toInt64 := funext fun q => by
      by_cases hq : q = j
      · subst hq; simp [up2, vp_updL]
      · simp [up2, vp_updL, hq]
    rw [this]
  · rw [va_up_ne _ _ hb]
    simp only [hp, up2_row J j v hb]
end HPA
