set_option linter.unusedVariables false
/-! SAFETY ONCE, AND WHAT IS DONE APART FROM IT: if a method's words hold of Q, and whatever comes out has P, they hold of what Q and P give -/
def CloR (WI WF : List (Nat × Nat)) (WJ WG : List Nat) (P : HS → Prop) : Prop :=
  (∀ x a ci j v, P x → a ∈ x.LP → x.k a = ci → (ci, j) ∈ WI → P (x.wI (up2 x.I a j v))) ∧
  (∀ x a ci j v, P x → a ∈ x.LP → x.k a = ci → (ci, j) ∈ WF → P (x.wF (up2 x.F a j v))) ∧
  (∀ x a f, P x → a ∈ x.LP → x.k a ∈ WJ → (∀ q, q ≠ a → f q = x.J q) → P (x.wJ f)) ∧
  (∀ x a i v, P x → a ∈ x.LP → x.k a ∈ WG → P (x.wG (up2 x.G a i v))) ∧
  (∀ x c z, P x → P (x.wC c z)) ∧
  (∀ x q ci N, P x → q ∉ x.LP → P (x.new q ci N)) ∧ (∀ x q ci N, 20 ≤ ci → P x → q ∉ x.LP → P (x.newJ q ci N)) ∧ ∀ x q ci N, 20 ≤ ci → P x → q ∉ x.LP → P (x.newG q ci N)
theorem CloR.mono {WI WF WI' WF' : List (Nat × Nat)} {WJ WG WJ' WG' : List Nat} {P : HS → Prop} (h : CloR WI WF WJ WG P) (h1 : ∀ p ∈ WI', p ∈ WI) (h2 : ∀ p ∈ WF', p ∈ WF) (h3 : ∀ p ∈ WJ', p ∈ WJ) (h4 : ∀ p ∈ WG', p ∈ WG) : CloR WI' WF' WJ' WG' P := by
  obtain ⟨c1, c2, c3, c4, c5⟩ := h
  exact ⟨fun x a ci j v a1 a2 a3 a4 => c1 x a ci j v a1 a2 a3 (h1 _ a4), fun x a ci j v a1 a2 a3 a4 => c2 x a ci j v a1 a2 a3 (h2 _ a4), fun x a f a1 a2 a3 a4 => c3 x a f a1 a2 (h3 _ a3) a4, fun x a i v a1 a2 a3 => c4 x a i v a1 a2 (h4 _ a3), c5⟩
section QR
variable {WI WF : List (Nat × Nat)} {WJ WG : List Nat} {P : HS → Prop} {x : HS} {ci j kd N : Nat} {r w : Option Nat} {i v : Int32}
theorem q_getI {Z Z' : Int32 → Prop} (h : ∀ v, Z v → Z' v) : wGetI x ci j r Z → wGetI x ci j r Z' := fun ⟨a, h1, h2, h3, h4⟩ => ⟨a, h1, h2, h3, h _ h4⟩
theorem q_getF {Z Z' : Option Nat → Prop} (h : ∀ v, Z v → Z' v) : wGetF x ci j r Z → wGetF x ci j r Z' := fun ⟨a, h1, h2, h3, h4⟩ => ⟨a, h1, h2, h3, h _ h4⟩
theorem q_aldJ {Z Z' : Int32 → Prop} (h : ∀ v, Z v → Z' v) : wAldJ x kd r i Z → wAldJ x kd r i Z' := fun ⟨a, h1, h2, h3, h4, h5⟩ => ⟨a, h1, h2, h3, h4, h _ h5⟩
theorem q_aldG {Z Z' : Option Nat → Prop} (h : ∀ v, Z v → Z' v) : wAldG x kd r i Z → wAldG x kd r i Z' := fun ⟨a, h1, h2, h3, h4, h5⟩ => ⟨a, h1, h2, h3, h4, h _ h5⟩
theorem q_len {Z Z' : Int32 → Prop} (h : ∀ v, Z v → Z' v) : wLen x kd r Z → wLen x kd r Z' := fun ⟨a, h1, h2, h3, h4⟩ => ⟨a, h1, h2, h3, h _ h4⟩
theorem q_if {c A A' B B' : Prop} (hA : A → A') (hB : B → B') : wIf c A B → wIf c A' B' := fun h => ⟨fun z => hA (h.1 z), fun z => hB (h.2 z)⟩
theorem q_recv {Z Z' : Prop} (h : Z → Z') : wRecv x ci r Z → wRecv x ci r Z' := fun z => ⟨z.1, h z.2⟩
theorem q_ref {Z Z' : Prop} (h : Z → Z') : wRef r Z → wRef r Z' := fun z => ⟨z.1, h z.2⟩
theorem q_bit {Z Z' : Prop} (h : Z → Z') : wBit v Z → wBit v Z' := fun z => ⟨z.1, h z.2⟩
theorem q_join0 {K K' : HS → Prop} {B B' : (HS → Prop) → Prop} (hK : ∀ x, P x → K x → K' x) (hB : ∀ K K', (∀ x, P x → K x → K' x) → B K → B' K') : wJoin K B → wJoin K' B' := fun h => hB K K' hK h
theorem q_join1 {α : Type} {K K' : α → HS → Prop} {B B' : (α → HS → Prop) → Prop} (hK : ∀ v x, P x → K v x → K' v x) (hB : ∀ K K', (∀ v x, P x → K v x → K' v x) → B K → B' K') : wJoin K B → wJoin K' B' := fun h => hB K K' hK h
theorem q_loop {σ : Type} {B B' : σ → HS → (σ → HS → Prop) → Prop} {v : σ} (hx : P x) (h : ∀ v x again again', P x → (∀ v' x', P x' → again v' x' → again' v' x') → B v x again → B' v x again') : wLoop B v x → wLoop B' v x := by
  rintro ⟨M, ⟨n, h0⟩, hM⟩
  exact ⟨fun n v x => M n v x ∧ P x, ⟨n, h0, hx⟩, fun n v x hm => h v x _ _ hm.2 (fun v' x' hp ⟨n', h1, h2⟩ => ⟨n', h1, h2, hp⟩) (hM n v x hm.1)⟩
/-- the same with the loop's own values -/
theorem q_loopV {σ : Type} {B B' : σ → HS → (σ → HS → Prop) → Prop} {v : σ} (P : σ → HS → Prop) (hx : P v x) (h : ∀ v x again again', P v x → (∀ v' x', P v' x' → again v' x' → again' v' x') → B v x again → B' v x again') : wLoop B v x → wLoop B' v x := by
  rintro ⟨M, ⟨n, h0⟩, hM⟩
  exact ⟨fun n v x => M n v x ∧ P v x, ⟨n, h0, hx⟩, fun n v x hm => h v x _ _ hm.2 (fun v' x' hp ⟨n', h1, h2⟩ => ⟨n', h1, h2, hp⟩) (hM n v x hm.1)⟩
theorem q_putI (hP : CloR WI WF WJ WG P) (hj : (ci, j) ∈ WI) (hx : P x) {Z Z' : HS → Prop} (h : ∀ x', P x' → Z x' → Z' x') : wPutI x ci j r v Z → wPutI x ci j r v Z' := fun ⟨a, h1, h2, h3, h4⟩ => ⟨a, h1, h2, h3, h _ (hP.1 x a ci j v hx h2 h3 hj) h4⟩
theorem q_putZ (hP : CloR WI WF WJ WG P) (hj : (ci, j) ∈ WI) (hx : P x) {Z Z' : HS → Prop} (h : ∀ x', P x' → Z x' → Z' x') : wPutZ x ci j r v Z → wPutZ x ci j r v Z' := fun ⟨a, h1, h2, h3, h4, h5⟩ => ⟨a, h1, h2, h3, h4, h _ (hP.1 x a ci j v hx h2 h3 hj) h5⟩
theorem q_putF (hP : CloR WI WF WJ WG P) (hj : (ci, j) ∈ WF) (hx : P x) {Z Z' : HS → Prop} (h : ∀ x', P x' → Z x' → Z' x') : wPutF x ci j r w Z → wPutF x ci j r w Z' := fun ⟨a, h1, h2, h3, h4⟩ => ⟨a, h1, h2, h3, h _ (hP.2.1 x a ci j w hx h2 h3 hj) h4⟩
theorem q_astI (hP : CloR WI WF WJ WG P) (hj : 20 ∈ WJ) (hx : P x) {Z Z' : HS → Prop} (h : ∀ x', P x' → Z x' → Z' x') : wAstI x r i v Z → wAstI x r i v Z' := fun ⟨a, h1, h2, h3, h4, h5⟩ => ⟨a, h1, h2, h3, h4, h _ (hP.2.2.1 x a _ hx h2 (by rw [h3]; exact hj) (fun q hq => funext fun i' => if_neg (fun z => hq z.1))) h5⟩
theorem q_astB (hP : CloR WI WF WJ WG P) (hj : 21 ∈ WJ) (hx : P x) {Z Z' : HS → Prop} (h : ∀ x', P x' → Z x' → Z' x') : wAstB x r i v Z → wAstB x r i v Z' := fun ⟨a, h1, h2, h3, h4, h5⟩ => ⟨a, h1, h2, h3, h4, h _ (hP.2.2.1 x a _ hx h2 (by rw [h3]; exact hj) (fun q hq => funext fun i' => if_neg (fun z => hq z.1))) h5⟩
theorem q_astZ (hP : CloR WI WF WJ WG P) (hj : 22 ∈ WJ) (hx : P x) {Z Z' : HS → Prop} (h : ∀ x', P x' → Z x' → Z' x') : wAstZ x r i v Z → wAstZ x r i v Z' := fun ⟨a, h1, h2, h3, h4, h5, h6⟩ => ⟨a, h1, h2, h3, h4, h5, h _ (hP.2.2.1 x a _ hx h2 (by rw [h3]; exact hj) (fun q hq => funext fun i' => if_neg (fun z => hq z.1))) h6⟩
theorem q_astG (hP : CloR WI WF WJ WG P) (hj : kd ∈ WG) (hx : P x) {Z Z' : HS → Prop} (h : ∀ x', P x' → Z x' → Z' x') : wAstG x kd ci r i w Z → wAstG x kd ci r i w Z' := fun ⟨a, h1, h2, h3, h4, h5, h6⟩ => ⟨a, h1, h2, h3, h4, h5, h _ (hP.2.2.2.1 x a _ w hx h2 (by rw [h3]; exact hj)) h6⟩
theorem q_copy (hP : CloR WI WF WJ WG P) (hj : 20 ∈ WJ) (hx : P x) {r t : Option Nat} {i0 i n : Int32} {Z Z' : HS → Prop} (h : ∀ x', P x' → Z x' → Z' x') : wCopy x r i0 t i n Z → wCopy x r i0 t i n Z' := by
  rintro ⟨a, b, h1, h2, h3, h4, h5, h6, h7, h8, h9, h10, h11, h12, h13⟩
  exact ⟨a, b, h1, h2, h3, h4, h5, h6, h7, h8, h9, h10, h11, h12, h _ (hP.2.2.1 x b _ hx h5 (by rw [h7]; exact hj) (fun q hq => funext fun i' => if_neg (fun z => hq z.1))) h13⟩
theorem q_throw (hP : CloR WI WF WJ WG P) (hx : P x) {S : String} {X X' : String → HS → Prop} (h : ∀ e u, P u → X e u → X' e u) : wThrow x S X → wThrow x S X' := fun z => ⟨z.1, z.2.1, h _ _ (hP.2.2.2.2.1 x _ _ hx) z.2.2⟩
theorem q_new (hP : CloR WI WF WJ WG P) (hx : P x) {Z Z' : Option Nat → HS → Prop} (h : ∀ q x', P x' → Z q x' → Z' q x') : wNew x ci N Z → wNew x ci N Z' := fun z => ⟨z.1, z.2.1, fun q hq => h _ _ (hP.2.2.2.2.2.1 x q ci N hx hq) (z.2.2 q hq)⟩
theorem q_newJ (hP : CloR WI WF WJ WG P) (hk : 20 ≤ kd) (hx : P x) {Z Z' : Option Nat → HS → Prop} (h : ∀ q x', P x' → Z q x' → Z' q x') : wNewJ x kd v Z → wNewJ x kd v Z' := fun z => ⟨z.1, z.2.1, z.2.2.1, z.2.2.2.1, fun q hq => h _ _ (hP.2.2.2.2.2.2.1 x q kd _ hk hx hq) (z.2.2.2.2 q hq)⟩
theorem q_newG (hP : CloR WI WF WJ WG P) (hk : 20 ≤ kd) (hx : P x) {Z Z' : Option Nat → HS → Prop} (h : ∀ q x', P x' → Z q x' → Z' q x') : wNewG x kd v Z → wNewG x kd v Z' := fun z => ⟨z.1, z.2.1, z.2.2.1, z.2.2.2.1, fun q hq => h _ _ (hP.2.2.2.2.2.2.2 x q kd _ hk hx hq) (z.2.2.2.2 q hq)⟩
end QR
/-! the same for the reference -/
def CloM (WF WA : List Nat) (P : (Nat → Int32) → (Nat → Nat → Int32) → Prop) : Prop := (∀ j, j ∈ WF → ∀ fi ar v, P fi ar → P (va_up fi j v) ar) ∧ ∀ j, j ∈ WA → ∀ fi ar i v, P fi ar → P fi (up2 ar j i v)
theorem CloM.mono {WF WA WF' WA' : List Nat} {P : (Nat → Int32) → (Nat → Nat → Int32) → Prop} (h : CloM WF WA P) (h1 : ∀ p ∈ WF', p ∈ WF) (h2 : ∀ p ∈ WA', p ∈ WA) : CloM WF' WA' P := ⟨fun j hj => h.1 j (h1 j hj), fun j hj => h.2 j (h2 j hj)⟩
section NR
variable {b : MT} {P : (Nat → Int32) → (Nat → Nat → Int32) → Prop} {fi : Nat → Int32} {ar : Nat → Nat → Int32} {j : Nat} {i v : Int32}
theorem n_getF (hb : MB b) (hj : j ∈ mIds) {Z Z' : Option Nat → Prop} (h : Z (some (b.a j)) → Z' (some (b.a j))) : wGetF (mS b fi ar) 12 j (some b.o) Z → wGetF (mS b fi ar) 12 j (some b.o) Z' := by
  rw [m_getF hb hj, m_getF hb hj]; exact h
theorem n_putI (hb : MB b) (hP : ∀ fi ar v, P fi ar → P (va_up fi j v) ar) (hx : P fi ar) {Z Z' : HS → Prop} (h : ∀ fi', P fi' ar → Z (mS b fi' ar) → Z' (mS b fi' ar)) : wPutI (mS b fi ar) 12 j (some b.o) v Z → wPutI (mS b fi ar) 12 j (some b.o) v Z' := by
  rw [m_putI hb, m_putI hb]; exact h _ (hP _ _ _ hx)
theorem n_putZ (hb : MB b) (hP : ∀ fi ar v, P fi ar → P (va_up fi j v) ar) (hx : P fi ar) {Z Z' : HS → Prop} (h : ∀ fi', P fi' ar → Z (mS b fi' ar) → Z' (mS b fi' ar)) : wPutZ (mS b fi ar) 12 j (some b.o) v Z → wPutZ (mS b fi ar) 12 j (some b.o) v Z' := by
  rw [m_putZ hb, m_putZ hb]; exact fun z => ⟨z.1, h _ (hP _ _ _ hx) z.2⟩
theorem n_astI (hb : MB b) (hj : j ∈ mIds) (hk : mKind j = 20) (hP : ∀ fi ar i v, P fi ar → P fi (up2 ar j i v)) (hx : P fi ar) {Z Z' : HS → Prop} (h : ∀ ar', P fi ar' → Z (mS b fi ar') → Z' (mS b fi ar')) : wAstI (mS b fi ar) (some (b.a j)) i v Z → wAstI (mS b fi ar) (some (b.a j)) i v Z' := by
  rw [m_astI hb hj hk, m_astI hb hj hk]; exact fun z => ⟨z.1, h _ (hP _ _ _ _ hx) z.2⟩
theorem n_astB (hb : MB b) (hj : j ∈ mIds) (hk : mKind j = 21) (hP : ∀ fi ar i v, P fi ar → P fi (up2 ar j i v)) (hx : P fi ar) {Z Z' : HS → Prop} (h : ∀ ar', P fi ar' → Z (mS b fi ar') → Z' (mS b fi ar')) : wAstB (mS b fi ar) (some (b.a j)) i v Z → wAstB (mS b fi ar) (some (b.a j)) i v Z' := by
  rw [m_astB hb hj hk, m_astB hb hj hk]; exact fun z => ⟨z.1, h _ (hP _ _ _ _ hx) z.2⟩
theorem n_astZ (hb : MB b) (hj : j ∈ mIds) (hk : mKind j = 22) (hP : ∀ fi ar i v, P fi ar → P fi (up2 ar j i v)) (hx : P fi ar) {Z Z' : HS → Prop} (h : ∀ ar', P fi ar' → Z (mS b fi ar') → Z' (mS b fi ar')) : wAstZ (mS b fi ar) (some (b.a j)) i v Z → wAstZ (mS b fi ar) (some (b.a j)) i v Z' := by
  rw [m_astZ hb hj hk, m_astZ hb hj hk]; exact fun z => ⟨z.1, z.2.1, h _ (hP _ _ _ _ hx) z.2.2⟩
theorem n_join0 {K K' : HS → Prop} {B B' : (HS → Prop) → Prop} (hK : ∀ fi ar, P fi ar → K (mS b fi ar) → K' (mS b fi ar)) (hB : ∀ K K' : HS → Prop, (∀ fi ar, P fi ar → K (mS b fi ar) → K' (mS b fi ar)) → B K → B' K') : wJoin K B → wJoin K' B' := fun h => hB K K' hK h
theorem n_join1 {α : Type} {K K' : α → HS → Prop} {B B' : (α → HS → Prop) → Prop} (hK : ∀ v fi ar, P fi ar → K v (mS b fi ar) → K' v (mS b fi ar)) (hB : ∀ K K' : α → HS → Prop, (∀ v fi ar, P fi ar → K v (mS b fi ar) → K' v (mS b fi ar)) → B K → B' K') : wJoin K B → wJoin K' B' := fun h => hB K K' hK h
theorem n_loop {σ : Type} {B B' : σ → HS → (σ → HS → Prop) → Prop} {v : σ} (hx : P fi ar) (h : ∀ (v : σ) (fi : Nat → Int32) (ar : Nat → Nat → Int32) (again again' : σ → HS → Prop), P fi ar → (∀ v' fi' ar', P fi' ar' → again v' (mS b fi' ar') → again' v' (mS b fi' ar')) → B v (mS b fi ar) again → B' v (mS b fi ar) again') : wLoop B v (mS b fi ar) → wLoop B' v (mS b fi ar) :=
  q_loop (P := fun x => ∃ fi ar, x = mS b fi ar ∧ P fi ar) ⟨fi, ar, rfl, hx⟩ (fun v x again again' ⟨fi, ar, e, hp⟩ ha => by
    subst e
    exact h v fi ar again again' hp (fun v' fi' ar' hp' => ha v' _ ⟨fi', ar', rfl, hp'⟩))
/-- the same with the loop's own values -/
theorem n_loopV {σ : Type} {B B' : σ → HS → (σ → HS → Prop) → Prop} {v : σ} (P : σ → (Nat → Int32) → (Nat → Nat → Int32) → Prop) (hx : P v fi ar) (h : ∀ (v : σ) (fi : Nat → Int32) (ar : Nat → Nat → Int32) (again again' : σ → HS → Prop), P v fi ar → (∀ v' fi' ar', P v' fi' ar' → again v' (mS b fi' ar') → again' v' (mS b fi' ar')) → B v (mS b fi ar) again → B' v (mS b fi ar) again') : wLoop B v (mS b fi ar) → wLoop B' v (mS b fi ar) :=
  q_loopV (fun v x => ∃ fi ar, x = mS b fi ar ∧ P v fi ar) ⟨fi, ar, rfl, hx⟩ (fun v x again again' ⟨fi, ar, e, hp⟩ ha => by
    subst e
    exact h v fi ar again again' hp (fun v' fi' ar' hp' => ha v' _ ⟨fi', ar', rfl, hp'⟩))
/-- nothing but these has changed -/
def frM (WF WA : List Nat) (fi : Nat → Int32) (ar : Nat → Nat → Int32) (fi' : Nat → Int32) (ar' : Nat → Nat → Int32) : Prop := (∀ j, j ∉ WF → fi' j = fi j) ∧ ∀ j, j ∉ WA → ar' j = ar j
theorem frM_rf {WF WA : List Nat} : frM WF WA fi ar fi ar := ⟨fun _ _ => rfl, fun _ _ => rfl⟩
theorem frM_clo {WF WA : List Nat} : CloM WF WA (frM WF WA fi ar) := ⟨fun j hj fi' ar' v h => ⟨fun q hq => by rw [va_up_ne _ _ (fun z => hq (by rw [z]; exact hj))]; exact h.1 q hq, h.2⟩, fun j hj fi' ar' i v h => ⟨h.1, fun q hq => by
    rw [← h.2 q hq]
    funext i'
    exact if_neg (fun z => hq (by rw [z.1]; exact hj))⟩⟩
end NR
theorem qy_putI {P : HS → Prop} {x : HS} {ci j : Nat} {r : Option Nat} {v : Int32} {Z Z' : HS → Prop} (h2 : ∀ a, r = some a → a ∈ x.LP → x.k a = ci → P (x.wI (up2 x.I a j v))) (h : ∀ x', P x' → Z x' → Z' x') : wPutI x ci j r v Z → wPutI x ci j r v Z' := fun ⟨a, h1, h3, h4, h5⟩ => ⟨a, h1, h3, h4, h _ (h2 a h1 h3 h4) h5⟩
theorem ny_putI {b : MT} {P : (Nat → Int32) → (Nat → Nat → Int32) → Prop} {fi : Nat → Int32} {ar : Nat → Nat → Int32} {j : Nat} {v : Int32} (hb : MB b) (h2 : P (va_up fi j v) ar) {Z Z' : HS → Prop} (h : ∀ fi', P fi' ar → Z (mS b fi' ar) → Z' (mS b fi' ar)) : wPutI (mS b fi ar) 12 j (some b.o) v Z → wPutI (mS b fi ar) 12 j (some b.o) v Z' := by
  rw [m_putI hb, m_putI hb]; exact h _ h2
