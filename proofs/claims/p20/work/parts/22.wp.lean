/-! WHAT A METHOD NEEDS AND DOES, over the heap of four maps, without a machine: each instruction that touches the heap is a word; 'Z' is what follows -/
def HS : Type := List Nat × (Nat → Nat) × (Nat → Nat) × (Nat → Nat → Int32) × (Nat → Nat → Option Nat) × (Nat → Nat → Int32) × (Nat → Nat → Option Nat) × Nat × Nat
def HS.LP (x : HS) : List Nat := x.1
def HS.k (x : HS) : Nat → Nat := x.2.1
def HS.n (x : HS) : Nat → Nat := x.2.2.1
def HS.I (x : HS) : Nat → Nat → Int32 := x.2.2.2.1
def HS.F (x : HS) : Nat → Nat → Option Nat := x.2.2.2.2.1
def HS.J (x : HS) : Nat → Nat → Int32 := x.2.2.2.2.2.1
def HS.G (x : HS) : Nat → Nat → Option Nat := x.2.2.2.2.2.2.1
def HS.c (x : HS) : Nat := x.2.2.2.2.2.2.2.1
def HS.z (x : HS) : Nat := x.2.2.2.2.2.2.2.2
def HS.mk (LP : List Nat) (k : Nat → Nat) (n : Nat → Nat) (I : Nat → Nat → Int32) (F : Nat → Nat → Option Nat) (J : Nat → Nat → Int32) (G : Nat → Nat → Option Nat) (c : Nat) (z : Nat) : HS := (LP, k, n, I, F, J, G, c, z)
def HS.wI (x : HS) (f : Nat → Nat → Int32) : HS := HS.mk x.LP x.k x.n f x.F x.J x.G x.c x.z
def HS.wF (x : HS) (f : Nat → Nat → Option Nat) : HS := HS.mk x.LP x.k x.n x.I f x.J x.G x.c x.z
def HS.wJ (x : HS) (f : Nat → Nat → Int32) : HS := HS.mk x.LP x.k x.n x.I x.F f x.G x.c x.z
def HS.wG (x : HS) (f : Nat → Nat → Option Nat) : HS := HS.mk x.LP x.k x.n x.I x.F x.J f x.c x.z
def HS.wC (x : HS) (c z : Nat) : HS := HS.mk x.LP x.k x.n x.I x.F x.J x.G c z
/-- an index as a place -/
def ix (i : Int32) : Nat := i.toInt.toNat
/-- an index that is in an array of n -/
def wIn (i : Int32) (n : Nat) : Prop := 0 ≤ i.toInt ∧ i.toInt < n
def wGetI (x : HS) (ci j : Nat) (r : Option Nat) (Z : Int32 → Prop) : Prop := ∃ a, r = some a ∧ a ∈ x.LP ∧ x.k a = ci ∧ Z (x.I a j)
def wGetF (x : HS) (ci j : Nat) (r : Option Nat) (Z : Option Nat → Prop) : Prop := ∃ a, r = some a ∧ a ∈ x.LP ∧ x.k a = ci ∧ Z (x.F a j)
def wPutI (x : HS) (ci j : Nat) (r : Option Nat) (v : Int32) (Z : HS → Prop) : Prop := ∃ a, r = some a ∧ a ∈ x.LP ∧ x.k a = ci ∧ Z (x.wI (up2 x.I a j v))
def wPutZ (x : HS) (ci j : Nat) (r : Option Nat) (v : Int32) (Z : HS → Prop) : Prop := ∃ a, r = some a ∧ a ∈ x.LP ∧ x.k a = ci ∧ (v = 0 ∨ v = 1) ∧ Z (x.wI (up2 x.I a j v))
def wPutF (x : HS) (ci j : Nat) (r v : Option Nat) (Z : HS → Prop) : Prop := ∃ a, r = some a ∧ a ∈ x.LP ∧ x.k a = ci ∧ Z (x.wF (up2 x.F a j v))
def wAldJ (x : HS) (kd : Nat) (r : Option Nat) (i : Int32) (Z : Int32 → Prop) : Prop := ∃ a, r = some a ∧ a ∈ x.LP ∧ x.k a = kd ∧ wIn i (x.n a) ∧ Z (x.J a (ix i))
def wAldG (x : HS) (kd : Nat) (r : Option Nat) (i : Int32) (Z : Option Nat → Prop) : Prop := ∃ a, r = some a ∧ a ∈ x.LP ∧ x.k a = kd ∧ wIn i (x.n a) ∧ Z (x.G a (ix i))
def wAstI (x : HS) (r : Option Nat) (i v : Int32) (Z : HS → Prop) : Prop := ∃ a, r = some a ∧ a ∈ x.LP ∧ x.k a = 20 ∧ wIn i (x.n a) ∧ Z (x.wJ (up2 x.J a (ix i) v))
def wAstB (x : HS) (r : Option Nat) (i v : Int32) (Z : HS → Prop) : Prop := ∃ a, r = some a ∧ a ∈ x.LP ∧ x.k a = 21 ∧ wIn i (x.n a) ∧ Z (x.wJ (up2 x.J a (ix i) v.toInt8.toInt32))
def wAstZ (x : HS) (r : Option Nat) (i v : Int32) (Z : HS → Prop) : Prop := ∃ a, r = some a ∧ a ∈ x.LP ∧ x.k a = 22 ∧ wIn i (x.n a) ∧ (v = 0 ∨ v = 1) ∧ Z (x.wJ (up2 x.J a (ix i) v))
def wAstG (x : HS) (kd ci : Nat) (r : Option Nat) (i : Int32) (v : Option Nat) (Z : HS → Prop) : Prop := ∃ a, r = some a ∧ a ∈ x.LP ∧ x.k a = kd ∧ wIn i (x.n a) ∧ (∀ y, v = some y → y ∈ x.LP ∧ x.k y = ci) ∧ Z (x.wG (up2 x.G a (ix i) v))
def wLen (x : HS) (kd : Nat) (r : Option Nat) (Z : Int32 → Prop) : Prop := ∃ a, r = some a ∧ a ∈ x.LP ∧ x.k a = kd ∧ Z (Int32.ofNat (x.n a))
def HS.new (x : HS) (q ci N : Nat) : HS := HS.mk (x.LP ++ [q]) (va_up x.k q ci) x.n (va_up x.I q (fun _ => 0)) (va_up x.F q (fun _ => none)) x.J x.G (x.c - 1) (x.z - N)
def HS.newJ (x : HS) (q kd N : Nat) : HS := HS.mk (x.LP ++ [q]) (va_up x.k q kd) (va_up x.n q N) x.I x.F (va_up x.J q (fun _ => 0)) x.G (x.c - 1) (x.z - N)
def HS.newG (x : HS) (q kd N : Nat) : HS := HS.mk (x.LP ++ [q]) (va_up x.k q kd) (va_up x.n q N) x.I x.F x.J (va_up x.G q (fun _ => none)) (x.c - 1) (x.z - N)
def wNew (x : HS) (ci N : Nat) (Z : Option Nat → HS → Prop) : Prop := 1 ≤ x.c ∧ N ≤ x.z ∧ ∀ q, q ∉ x.LP → Z (some q) (x.new q ci N)
def wNewJ (x : HS) (kd : Nat) (len : Int32) (Z : Option Nat → HS → Prop) : Prop := 0 ≤ len.toInt ∧ len.toInt ≤ 100000 ∧ 1 ≤ x.c ∧ len.toInt.toNat ≤ x.z ∧ ∀ q, q ∉ x.LP → Z (some q) (x.newJ q kd len.toInt.toNat)
def wNewG (x : HS) (kd : Nat) (len : Int32) (Z : Option Nat → HS → Prop) : Prop := 0 ≤ len.toInt ∧ len.toInt ≤ 100000 ∧ 1 ≤ x.c ∧ len.toInt.toNat ≤ x.z ∧ ∀ q, q ∉ x.LP → Z (some q) (x.newG q kd len.toInt.toNat)
/-- a throw makes one cell of 6 slots -/
def wThrow (x : HS) (E : String) (X : String → HS → Prop) : Prop := 1 ≤ x.c ∧ 6 ≤ x.z ∧ X E (x.wC (x.c - 1) (x.z - 6))
def wIf (c A B : Prop) : Prop := (c → A) ∧ (¬ c → B)
/-- who is asked is there -/
def wRecv (x : HS) (ci : Nat) (r : Option Nat) (Z : Prop) : Prop := (∃ a, r = some a ∧ a ∈ x.LP ∧ x.k a = ci) ∧ Z
def wRef (r : Option Nat) (Z : Prop) : Prop := (∃ a, r = some a) ∧ Z
def wUshr (a b : Int32) : Int32 := (a.toUInt32 >>> (b.toUInt32 &&& Int32.toUInt32 31)).toInt32
/-- the answer of a method that answers true or false -/
def wBit (v : Int32) (Z : Prop) : Prop := (v = 0 ∨ v = 1) ∧ Z
/-- System.arraycopy of N ints from the beginning of r to the place i of t -/
def wCopy (x : HS) (r : Option Nat) (i0 : Int32) (t : Option Nat) (i N : Int32) (Z : HS → Prop) : Prop := ∃ a b, r = some a ∧ t = some b ∧ a ≠ b ∧ a ∈ x.LP ∧ b ∈ x.LP ∧ x.k a = 20 ∧ x.k b = 20 ∧ 0 ≤ i0.toInt ∧ 0 ≤ N.toInt ∧ 0 ≤ i.toInt ∧ i0.toInt + N.toInt ≤ x.n a ∧ i.toInt + N.toInt ≤ x.n b ∧
  Z (x.wJ (fun q j => if q = b ∧ i.toInt.toNat ≤ j ∧ j < i.toInt.toNat + N.toInt.toNat then x.J a (i0.toInt.toNat + (j - i.toInt.toNat)) else x.J q j))
def wJoin {κ : Type} (K : κ) (B : κ → Prop) : Prop := B K
def wLoop {σ : Type} (B : σ → HS → (σ → HS → Prop) → Prop) (v : σ) (x : HS) : Prop := ∃ P : Nat → σ → HS → Prop, (∃ n, P n v x) ∧ ∀ n v x, P n v x → B v x (fun v' x' => ∃ n', n' < n ∧ P n' v' x')
theorem ix_int {i : Int32} (h : 0 ≤ i.toInt) : (ix i : Int) = i.toInt := by unfold ix; omega
theorem ix_lt {i : Int32} {n : Nat} (h : wIn i n) : ix i < n := by obtain ⟨h1, h2⟩ := h; unfold ix; omega
theorem wJoin_elim {κ : Type} {K : κ} {B : κ → Prop} {P : Prop} {M : κ → Prop} (h : wJoin K B) (hK : M K) (hB : ∀ K', M K' → B K' → P) : P := hB K hK h
theorem wLoop_elim {σ : Type} {B : σ → HS → (σ → HS → Prop) → Prop} {v : σ} {x : HS} {M : σ → HS → Prop} (h : wLoop B v x) (hB : ∀ (v : σ) (x : HS) (again : σ → HS → Prop), (∀ v' x', again v' x' → M v' x') → B v x again → M v x) : M v x := by
  obtain ⟨P, ⟨n, hn⟩, hP⟩ := h
  suffices ∀ (n : Nat) (v : σ) (x : HS), P n v x → M v x from this n v x hn
  intro n
  induction n using Nat.strongRecOn with
  | _ n ih => exact fun v x h => hB v x _ (fun v' x' ⟨n', h1, h2⟩ => ih n' h1 v' x' h2) (hP n v x h)
/-- a loop, told by what holds at its head and by what gets less -/
theorem wLoop_intro {σ : Type} {B : σ → HS → (σ → HS → Prop) → Prop} {v : σ} {x : HS} (P : Nat → σ → HS → Prop) (n : Nat) (h0 : P n v x) (hP : ∀ n v x, P n v x → B v x (fun v' x' => ∃ n', n' < n ∧ P n' v' x')) : wLoop B v x := ⟨P, ⟨n, h0⟩, hP⟩
/-- what the parts of a changed heap are -/
theorem hsw : (∀ (x : HS) (f : Nat → Nat → Int32), (x.wI f).LP = x.LP) ∧ (∀ (x : HS) (f : Nat → Nat → Int32), (x.wI f).k = x.k) ∧ (∀ (x : HS) (f : Nat → Nat → Int32), (x.wI f).n = x.n) ∧ (∀ (x : HS) (f : Nat → Nat → Int32), (x.wI f).I = f) ∧ (∀ (x : HS) (f : Nat → Nat → Int32), (x.wI f).F = x.F) ∧ (∀ (x : HS) (f : Nat → Nat → Int32), (x.wI f).J = x.J) ∧ (∀ (x : HS) (f : Nat → Nat → Int32), (x.wI f).G = x.G) ∧ (∀ (x : HS) (f : Nat → Nat → Int32), (x.wI f).c = x.c) ∧ (∀ (x : HS) (f : Nat → Nat → Int32), (x.wI f).z = x.z) ∧ (∀ (x : HS) (f : Nat → Nat → Option Nat), (x.wF f).LP = x.LP) ∧ (∀ (x : HS) (f : Nat → Nat → Option Nat), (x.wF f).k = x.k) ∧ (∀ (x : HS) (f : Nat → Nat → Option Nat), (x.wF f).n = x.n) ∧ (∀ (x : HS) (f : Nat → Nat → Option Nat), (x.wF f).I = x.I) ∧ (∀ (x : HS) (f : Nat → Nat → Option Nat), (x.wF f).F = f) ∧ (∀ (x : HS) (f : Nat → Nat → Option Nat), (x.wF f).J = x.J) ∧ (∀ (x : HS) (f : Nat → Nat → Option Nat), (x.wF f).G = x.G) ∧ (∀ (x : HS) (f : Nat → Nat → Option Nat), (x.wF f).c = x.c) ∧ (∀ (x : HS) (f : Nat → Nat → Option Nat), (x.wF f).z = x.z) ∧ (∀ (x : HS) (f : Nat → Nat → Int32), (x.wJ f).LP = x.LP) ∧ (∀ (x : HS) (f : Nat → Nat → Int32), (x.wJ f).k = x.k) ∧ (∀ (x : HS) (f : Nat → Nat → Int32), (x.wJ f).n = x.n) ∧ (∀ (x : HS) (f : Nat → Nat → Int32), (x.wJ f).I = x.I) ∧ (∀ (x : HS) (f : Nat → Nat → Int32), (x.wJ f).F = x.F) ∧ (∀ (x : HS) (f : Nat → Nat → Int32), (x.wJ f).J = f) ∧ (∀ (x : HS) (f : Nat → Nat → Int32), (x.wJ f).G = x.G) ∧ (∀ (x : HS) (f : Nat → Nat → Int32), (x.wJ f).c = x.c) ∧ (∀ (x : HS) (f : Nat → Nat → Int32), (x.wJ f).z = x.z) ∧ (∀ (x : HS) (f : Nat → Nat → Option Nat), (x.wG f).LP = x.LP) ∧ (∀ (x : HS) (f : Nat → Nat → Option Nat), (x.wG f).k = x.k) ∧ (∀ (x : HS) (f : Nat → Nat → Option Nat), (x.wG f).n = x.n) ∧ (∀ (x : HS) (f : Nat → Nat → Option Nat), (x.wG f).I = x.I) ∧ (∀ (x : HS) (f : Nat → Nat → Option Nat), (x.wG f).F = x.F) ∧ (∀ (x : HS) (f : Nat → Nat → Option Nat), (x.wG f).J = x.J) ∧ (∀ (x : HS) (f : Nat → Nat → Option Nat), (x.wG f).G = f) ∧ (∀ (x : HS) (f : Nat → Nat → Option Nat), (x.wG f).c = x.c) ∧ (∀ (x : HS) (f : Nat → Nat → Option Nat), (x.wG f).z = x.z) ∧ (∀ (x : HS) (c z : Nat), (x.wC c z).LP = x.LP) ∧ (∀ (x : HS) (c z : Nat), (x.wC c z).k = x.k) ∧ (∀ (x : HS) (c z : Nat), (x.wC c z).n = x.n) ∧ (∀ (x : HS) (c z : Nat), (x.wC c z).I = x.I) ∧ (∀ (x : HS) (c z : Nat), (x.wC c z).F = x.F) ∧ (∀ (x : HS) (c z : Nat), (x.wC c z).J = x.J) ∧ (∀ (x : HS) (c z : Nat), (x.wC c z).G = x.G) ∧ (∀ (x : HS) (c z : Nat), (x.wC c z).c = c) ∧ (∀ (x : HS) (c z : Nat), (x.wC c z).z = z) ∧ (∀ (x : HS) (q i N : Nat), (x.new q i N).LP = x.LP ++ [q]) ∧ (∀ (x : HS) (q i N : Nat), (x.new q i N).k = va_up x.k q i) ∧ (∀ (x : HS) (q i N : Nat), (x.new q i N).n = x.n) ∧ (∀ (x : HS) (q i N : Nat), (x.new q i N).I = va_up x.I q (fun _ => 0)) ∧ (∀ (x : HS) (q i N : Nat), (x.new q i N).F = va_up x.F q (fun _ => none)) ∧ (∀ (x : HS) (q i N : Nat), (x.new q i N).J = x.J) ∧ (∀ (x : HS) (q i N : Nat), (x.new q i N).G = x.G) ∧ (∀ (x : HS) (q i N : Nat), (x.new q i N).c = x.c - 1) ∧ (∀ (x : HS) (q i N : Nat), (x.new q i N).z = x.z - N) ∧ (∀ (x : HS) (q i N : Nat), (x.newJ q i N).LP = x.LP ++ [q]) ∧ (∀ (x : HS) (q i N : Nat), (x.newJ q i N).k = va_up x.k q i) ∧ (∀ (x : HS) (q i N : Nat), (x.newJ q i N).n = va_up x.n q N) ∧ (∀ (x : HS) (q i N : Nat), (x.newJ q i N).I = x.I) ∧ (∀ (x : HS) (q i N : Nat), (x.newJ q i N).F = x.F) ∧ (∀ (x : HS) (q i N : Nat), (x.newJ q i N).J = va_up x.J q (fun _ => 0)) ∧ (∀ (x : HS) (q i N : Nat), (x.newJ q i N).G = x.G) ∧ (∀ (x : HS) (q i N : Nat), (x.newJ q i N).c = x.c - 1) ∧ (∀ (x : HS) (q i N : Nat), (x.newJ q i N).z = x.z - N) ∧ (∀ (x : HS) (q i N : Nat), (x.newG q i N).LP = x.LP ++ [q]) ∧ (∀ (x : HS) (q i N : Nat), (x.newG q i N).k = va_up x.k q i) ∧ (∀ (x : HS) (q i N : Nat), (x.newG q i N).n = va_up x.n q N) ∧ (∀ (x : HS) (q i N : Nat), (x.newG q i N).I = x.I) ∧ (∀ (x : HS) (q i N : Nat), (x.newG q i N).F = x.F) ∧ (∀ (x : HS) (q i N : Nat), (x.newG q i N).J = x.J) ∧ (∀ (x : HS) (q i N : Nat), (x.newG q i N).G = va_up x.G q (fun _ => none)) ∧ (∀ (x : HS) (q i N : Nat), (x.newG q i N).c = x.c - 1) ∧ (∀ (x : HS) (q i N : Nat), (x.newG q i N).z = x.z - N) := by
  refine ⟨?_, ?_, ?_, ?_, ?_, ?_, ?_, ?_, ?_, ?_, ?_, ?_, ?_, ?_, ?_, ?_, ?_, ?_, ?_, ?_, ?_, ?_, ?_, ?_, ?_, ?_, ?_, ?_, ?_, ?_, ?_, ?_, ?_, ?_, ?_, ?_, ?_, ?_, ?_, ?_, ?_, ?_, ?_, ?_, ?_, ?_, ?_, ?_, ?_, ?_, ?_, ?_, ?_, ?_, ?_, ?_, ?_, ?_, ?_, ?_, ?_, ?_, ?_, ?_, ?_, ?_, ?_, ?_, ?_, ?_, ?_, ?_⟩ <;> intros <;> rfl
