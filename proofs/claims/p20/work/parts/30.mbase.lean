/-! THE REFERENCE'S HEAP: one thing with its fields, ints (fi) and arrays of ints (ar), by the numbers of the fields -/
theorem i_bmod (a : Int) : a.bmod 4294967296 = a % 4294967296 - (if a % 4294967296 < 2147483648 then 0 else 4294967296) := by
  have h : a.bmod 4294967296 = if a % 4294967296 < (4294967296 + 1) / 2 then a % 4294967296 else a % 4294967296 - 4294967296 := rfl
  rw [h]
  split <;> split <;> omega
/-- Int32 in ints -/
theorem i32 : (∀ a b : Int32, (a < b) = (a.toInt < b.toInt)) ∧ (∀ a b : Int32, (a ≤ b) = (a.toInt ≤ b.toInt)) ∧ (∀ a b : Int32, (a + b).toInt = (a.toInt + b.toInt) % 4294967296 - (if (a.toInt + b.toInt) % 4294967296 < 2147483648 then 0 else 4294967296)) ∧ (∀ a b : Int32, (a - b).toInt = (a.toInt - b.toInt) % 4294967296 - (if (a.toInt - b.toInt) % 4294967296 < 2147483648 then 0 else 4294967296)) ∧ (∀ a b : Int32, (a * b).toInt = (a.toInt * b.toInt) % 4294967296 - (if (a.toInt * b.toInt) % 4294967296 < 2147483648 then 0 else 4294967296)) := by
  refine ⟨fun a b => propext Int32.lt_iff_toInt_lt, fun a b => propext Int32.le_iff_toInt_le, fun a b => ?_, fun a b => ?_, fun a b => ?_⟩
  · rw [Int32.toInt_add]; exact i_bmod _
  · rw [Int32.toInt_sub]; exact i_bmod _
  · rw [Int32.toInt_mul]; exact i_bmod _
theorem i_rng (a : Int32) : -2147483648 ≤ a.toInt ∧ a.toInt < 2147483648 := by
  have h1 := Int32.le_toInt a
  have h2 := Int32.toInt_lt a
  exact ⟨by simpa using h1, by simpa using h2⟩
theorem i_add {a b : Int32} {x y : Int} (ha : a.toInt = x) (hb : b.toInt = y) (h : -2147483648 ≤ x + y ∧ x + y < 2147483648) : (a + b).toInt = x + y := by
  simp only [i32, ha, hb]; omega
theorem i_sub {a b : Int32} {x y : Int} (ha : a.toInt = x) (hb : b.toInt = y) (h : -2147483648 ≤ x - y ∧ x - y < 2147483648) : (a - b).toInt = x - y := by
  simp only [i32, ha, hb]; omega
theorem i_mul {a b : Int32} {x y : Int} (ha : a.toInt = x) (hb : b.toInt = y) (h : -2147483648 ≤ x * y ∧ x * y < 2147483648) : (a * b).toInt = x * y := by
  simp only [i32, ha, hb]
  generalize x * y = z at h
  omega
theorem wBit0 (Z : Prop) : wBit 0 Z = Z := by simp [wBit]
theorem wBit1 (Z : Prop) : wBit 1 Z = Z := by simp [wBit]
theorem wLoop_i {σ : Type} {B : σ → HS → (σ → HS → Prop) → Prop} {v : σ} {x : HS} (P : Nat → σ → HS → Prop) (n : Nat) (h0 : P n v x) (hP : ∀ (n : Nat) (v : σ) (x : HS) (again : σ → HS → Prop), (∀ n' v' x', n' < n → P n' v' x' → again v' x') → P n v x → B v x again) : wLoop B v x := ⟨P, ⟨n, h0⟩, fun n v x h => hP n v x _ (fun n' v' x' h1 h2 => ⟨n', h1, h2⟩) h⟩
theorem va_same {α : Type} (f : Nat → α) (k : Nat) : va_up f k (f k) = f := by
  funext j; unfold va_up; split
  · rename_i h; rw [h]
  · rfl
theorem va_twice {α : Type} (f : Nat → α) (k : Nat) (u v : α) : va_up (va_up f k u) k v = va_up f k v := by
  funext j; unfold va_up; split <;> rfl
/-- which of the reference's fields are arrays: their kind (20 ints, 21 bytes, 22 true or false) and length -/
def mIds : List Nat := [1, 3, 4, 5, 6, 7, 8, 9, 11, 12, 13, 14, 15, 16, 17, 18, 19, 24, 26, 28, 29, 30, 31, 32, 33, 34, 35, 36, 44, 45, 46, 47, 48, 50, 51, 52, 53, 54]
def mKind (j : Nat) : Nat := if j = 1 then 21 else if j = 11 ∨ j = 28 ∨ j = 29 then 22 else if j ∈ mIds then 20 else 0
def mLen (j : Nat) : Nat := if j = 1 then 400 else if j = 3 then 4 else if j ∈ [4, 5, 6, 7, 8] then 12 else if j = 9 then 36 else if j = 13 ∨ j = 24 then 12000 else if j = 26 then 8 else if j ∈ [28, 29, 30, 31, 32, 33, 34] then 10 else if j = 35 then 40 else if j = 36 then 6000 else if j = 44 ∨ j = 45 ∨ j = 51 then 11 else if j = 46 ∨ j = 47 then 55 else if j = 48 then 12 else if j = 50 then 8 else if j = 52 then 5 else if j = 53 ∨ j = 54 then 800 else 3000
def MT : Type := HS × Nat × (Nat → Nat)
abbrev MT.B (b : MT) : HS := b.1
abbrev MT.o (b : MT) : Nat := b.2.1
abbrev MT.a (b : MT) (j : Nat) : Nat := b.2.2 j
/-- where the arrays stand, apart from each other -/
def MB (b : MT) : Prop := b.o ∈ b.B.LP ∧ b.B.k b.o = 12 ∧ (∀ j, j ∈ mIds → b.B.F b.o j = some (b.a j) ∧ b.a j ∈ b.B.LP ∧ b.B.k (b.a j) = mKind j ∧ b.B.n (b.a j) = mLen j) ∧ ∀ i j, i ∈ mIds → j ∈ mIds → b.a i = b.a j → i = j
def mJ (b : MT) (ar : Nat → Nat → Int32) : Nat → Nat → Int32 := fun a i => match mIds.find? (fun j => b.a j == a) with
  | some j => ar j i
  | none => b.B.J a i
def mS (b : MT) (fi : Nat → Int32) (ar : Nat → Nat → Int32) : HS := (b.B.wI (fun a j => if a = b.o then fi j else b.B.I a j)).wJ (mJ b ar)
theorem mJ_find {b : MT} (hb : MB b) {j : Nat} (hj : j ∈ mIds) : mIds.find? (fun i => b.a i == b.a j) = some j := by
  cases h : mIds.find? (fun i => b.a i == b.a j) with
  | none => exact absurd (List.find?_eq_none.mp h j hj) (by simp)
  | some i =>
    have h1 := List.find?_some h
    have h2 := List.mem_of_find?_eq_some h
    rw [hb.2.2.2 i j h2 hj (by simpa using h1)]
theorem mJ_at {b : MT} (hb : MB b) {ar : Nat → Nat → Int32} {j i : Nat} (hj : j ∈ mIds) : mJ b ar (b.a j) i = ar j i := by
  unfold mJ; rw [mJ_find hb hj]
theorem mJ_up {b : MT} (hb : MB b) {ar : Nat → Nat → Int32} {j i : Nat} {v : Int32} (hj : j ∈ mIds) : up2 (mJ b ar) (b.a j) i v = mJ b (up2 ar j i v) := by
  funext a q
  unfold up2
  by_cases ha : a = b.a j
  · subst ha
    rw [mJ_at hb hj, mJ_at hb hj]
    simp [up2]
  · rw [if_neg (fun z => ha z.1)]
    unfold mJ
    cases h : mIds.find? (fun i => b.a i == a) with
    | none => rfl
    | some k =>
      have h1 := List.find?_some h
      have h1 : b.a k = a := by simpa using h1
      show ar k q = up2 ar j i v k q
      unfold up2
      rw [if_neg]
      rintro ⟨rfl, -⟩
      exact ha h1.symm
section MW
variable {b : MT} {fi : Nat → Int32} {ar : Nat → Nat → Int32}
theorem m_LP : (mS b fi ar).LP = b.B.LP := rfl
theorem m_k : (mS b fi ar).k = b.B.k := rfl
theorem m_n : (mS b fi ar).n = b.B.n := rfl
theorem m_F : (mS b fi ar).F = b.B.F := rfl
theorem m_J : (mS b fi ar).J = mJ b ar := rfl
theorem m_I {j : Nat} : (mS b fi ar).I b.o j = fi j := if_pos rfl
theorem m_getI (hb : MB b) {j : Nat} {Z : Int32 → Prop} : wGetI (mS b fi ar) 12 j (some b.o) Z = Z (fi j) := by
  refine propext ⟨?_, fun h => ⟨b.o, rfl, hb.1, hb.2.1, by rw [m_I]; exact h⟩⟩
  rintro ⟨a, h, -, -, h2⟩
  cases h
  rw [m_I] at h2; exact h2
theorem m_getF (hb : MB b) {j : Nat} (hj : j ∈ mIds) {Z : Option Nat → Prop} : wGetF (mS b fi ar) 12 j (some b.o) Z = Z (some (b.a j)) := by
  have hf : (mS b fi ar).F b.o j = some (b.a j) := (hb.2.2.1 j hj).1
  refine propext ⟨?_, fun h => ⟨b.o, rfl, hb.1, hb.2.1, by rw [hf]; exact h⟩⟩
  rintro ⟨a, h, -, -, h2⟩
  cases h
  rw [hf] at h2; exact h2
theorem m_recv (hb : MB b) {Z : Prop} : wRecv (mS b fi ar) 12 (some b.o) Z = Z := propext ⟨fun h => h.2, fun h => ⟨⟨b.o, rfl, hb.1, hb.2.1⟩, h⟩⟩
theorem mS_putI {j : Nat} {v : Int32} : (mS b fi ar).wI (up2 (mS b fi ar).I b.o j v) = mS b (va_up fi j v) ar := by
  have : up2 (mS b fi ar).I b.o j v = fun a q => if a = b.o then va_up fi j v q else b.B.I a q := by
    funext a q
    show (if a = b.o ∧ q = j then v else if a = b.o then fi q else b.B.I a q) = _
    by_cases h1 : a = b.o
    · by_cases h2 : q = j
      · simp [h1, h2, va_up]
      · simp [h1, h2, va_up]
    · simp [h1]
  rw [this]; rfl
theorem m_putI (hb : MB b) {j : Nat} {v : Int32} {Z : HS → Prop} : wPutI (mS b fi ar) 12 j (some b.o) v Z = Z (mS b (va_up fi j v) ar) := by
  refine propext ⟨?_, fun h => ⟨b.o, rfl, hb.1, hb.2.1, by rw [mS_putI]; exact h⟩⟩
  rintro ⟨a, h, -, -, h2⟩
  cases h
  rw [mS_putI] at h2; exact h2
theorem m_putZ (hb : MB b) {j : Nat} {v : Int32} {Z : HS → Prop} : wPutZ (mS b fi ar) 12 j (some b.o) v Z = ((v = 0 ∨ v = 1) ∧ Z (mS b (va_up fi j v) ar)) := by
  refine propext ⟨?_, fun h => ⟨b.o, rfl, hb.1, hb.2.1, h.1, by rw [mS_putI]; exact h.2⟩⟩
  rintro ⟨a, h, -, -, h1, h2⟩
  cases h
  rw [mS_putI] at h2; exact ⟨h1, h2⟩
theorem m_ald (hb : MB b) {j kd : Nat} {i : Int32} {Z : Int32 → Prop} (hj : j ∈ mIds) (hk : mKind j = kd) : wAldJ (mS b fi ar) kd (some (b.a j)) i Z = (wIn i (mLen j) ∧ Z (ar j (ix i))) := by
  obtain ⟨h1, h2, h3, h4⟩ := hb.2.2.1 j hj
  have e1 : (mS b fi ar).J (b.a j) (ix i) = ar j (ix i) := mJ_at hb hj
  refine propext ⟨?_, fun h => ⟨b.a j, rfl, h2, h3.trans hk, by show wIn i (b.B.n (b.a j)); rw [h4]; exact h.1, by rw [e1]; exact h.2⟩⟩
  rintro ⟨a, h, -, -, h5, h6⟩
  cases h
  rw [e1] at h6
  exact ⟨by rw [← h4]; exact h5, h6⟩
theorem mS_putJ (hb : MB b) {j i : Nat} {v : Int32} (hj : j ∈ mIds) : (mS b fi ar).wJ (up2 (mS b fi ar).J (b.a j) i v) = mS b fi (up2 ar j i v) := by
  rw [m_J, mJ_up hb hj]; rfl
theorem m_astI (hb : MB b) {j : Nat} {i v : Int32} {Z : HS → Prop} (hj : j ∈ mIds) (hk : mKind j = 20) : wAstI (mS b fi ar) (some (b.a j)) i v Z = (wIn i (mLen j) ∧ Z (mS b fi (up2 ar j (ix i) v))) := by
  obtain ⟨h1, h2, h3, h4⟩ := hb.2.2.1 j hj
  refine propext ⟨?_, fun h => ⟨b.a j, rfl, h2, h3.trans hk, by show wIn i (b.B.n (b.a j)); rw [h4]; exact h.1, by rw [mS_putJ hb hj]; exact h.2⟩⟩
  rintro ⟨a, h, -, -, h5, h6⟩
  cases h
  rw [mS_putJ hb hj] at h6
  exact ⟨by rw [← h4]; exact h5, h6⟩
theorem m_astB (hb : MB b) {j : Nat} {i v : Int32} {Z : HS → Prop} (hj : j ∈ mIds) (hk : mKind j = 21) : wAstB (mS b fi ar) (some (b.a j)) i v Z = (wIn i (mLen j) ∧ Z (mS b fi (up2 ar j (ix i) v.toInt8.toInt32))) := by
  obtain ⟨h1, h2, h3, h4⟩ := hb.2.2.1 j hj
  refine propext ⟨?_, fun h => ⟨b.a j, rfl, h2, h3.trans hk, by show wIn i (b.B.n (b.a j)); rw [h4]; exact h.1, by rw [mS_putJ hb hj]; exact h.2⟩⟩
  rintro ⟨a, h, -, -, h5, h6⟩
  cases h
  rw [mS_putJ hb hj] at h6
  exact ⟨by rw [← h4]; exact h5, h6⟩
theorem m_astZ (hb : MB b) {j : Nat} {i v : Int32} {Z : HS → Prop} (hj : j ∈ mIds) (hk : mKind j = 22) : wAstZ (mS b fi ar) (some (b.a j)) i v Z = (wIn i (mLen j) ∧ (v = 0 ∨ v = 1) ∧ Z (mS b fi (up2 ar j (ix i) v))) := by
  obtain ⟨h1, h2, h3, h4⟩ := hb.2.2.1 j hj
  refine propext ⟨?_, fun h => ⟨b.a j, rfl, h2, h3.trans hk, by show wIn i (b.B.n (b.a j)); rw [h4]; exact h.1, h.2.1, by rw [mS_putJ hb hj]; exact h.2.2⟩⟩
  rintro ⟨a, h, -, -, h5, h6, h7⟩
  cases h
  rw [mS_putJ hb hj] at h7
  exact ⟨by rw [← h4]; exact h5, h6, h7⟩
end MW
