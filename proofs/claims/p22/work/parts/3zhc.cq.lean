set_option linter.unusedVariables false
set_option linter.unusedSimpArgs false
/-! THE STATE WITH THE TEXT AND THE SOLUTIONS (laid by mkq.py): the bytes, how many solutions, which variables are known, what they are -/
abbrev AT3 : Type := AS × (Nat → Int32) × Nat × (Nat → Bool) × (Nat → Nat → Int32)
abbrev AT3.tp (q : AT3) : Nat → Int32 := q.2.1
abbrev AT3.sc (q : AT3) : Nat := q.2.2.1
abbrev AT3.sk (q : AT3) : Nat → Bool := q.2.2.2.1
abbrev AT3.sv (q : AT3) : Nat → Nat → Int32 := q.2.2.2.2
def AQ0 : AT3 := (AS0, fun _ => 0, 0, fun _ => false, fun _ _ => 0)
/-- what a text says -/
def qRd (q : AT3) : Option (List QG × (Nat → Bool)) := quA q.tp q.1.tl.toInt.toNat q.1.tn q.1.co 10 (fun _ => false) 0
def qSol (q : AT3) (p : Int32) (Gs : List QG) : SQ := solA q.1 (timeOf q.1 p) Gs (fun _ => 0) (0, 0, fun _ _ => 0)
def qCd (q : AT3) (p : Int32) : Int32 := if timeOk q.1 p then (match qRd q with
  | none => 2
  | some g => if mostL < (qSol q p g.1).1 then 3 else 0) else 1
def qAn (q : AT3) (p : Int32) : Int32 := match qRd q with
  | none => 0
  | some g => Int32.ofNat (qSol q p g.1).2.1
def OKq_question (q : AT3) (p : Int32) : Int32 → Int32 → Prop := EX (qCd q p) (qAn q p)
def nxq_question (q : AT3) (p : Int32) : AT3 := match qRd q with
  | none => (nx_question q.1 p, q.2)
  | some g => if qCd q p = 0 then (nx_question q.1 p, q.tp, (qSol q p g.1).2.1, g.2, (qSol q p g.1).2.2) else (nx_question q.1 p, q.2)
def sCd (q : AT3) (i k : Int32) : Int32 := if 0 ≤ k.toInt ∧ k.toInt ≤ 7 then (if 0 ≤ i.toInt ∧ i.toInt < (q.sc : Int) ∧ i.toInt < 100 ∧ q.sk (ix k) = true then 0 else 2) else 1
def OKq_solution (q : AT3) (p1 p2 : Int32) : Int32 → Int32 → Prop := EX (sCd q p1 p2) (q.sv (ix p1) (ix p2))
def nxq_solution (q : AT3) (p1 p2 : Int32) : AT3 := (nx_solution q.1 p1 p2, q.2)
/-- k bytes of p, the highest first, from n on -/
def putK (tp : Nat → Int32) (n : Nat) (p : Int32) : Nat → Nat → Int32
  | 0 => tp
  | k + 1 => va_up (putK tp n p k) (n + k) ((p >>> (Int32.ofInt (24 - 8 * (k : Int)) &&& 31)).toInt8.toInt32).toInt8.toInt32
def feedA (tp : Nat → Int32) (n : Nat) (p1 p2 p3 p4 p5 : Int32) : Nat → Int32 := putK (putK (putK (putK (putK tp n p1 4) (n + 4) p2 4) (n + 8) p3 4) (n + 12) p4 4) (n + 16) p5 4
def OKq_feed (q : AT3) (p1 p2 p3 p4 p5 : Int32) : Int32 → Int32 → Prop := OK_feed q.1 p1 p2 p3 p4 p5
def nxq_feed (q : AT3) (p1 p2 p3 p4 p5 : Int32) : AT3 := (nx_feed q.1 p1 p2 p3 p4 p5, if q.1.tl.toInt ≤ 380 then feedA q.tp q.1.tl.toInt.toNat p1 p2 p3 p4 p5 else q.tp, q.2.2)
/-- the class's reader, solver, text and solutions -/
def QK (o : Nat) (q : AT3) (b : CT) (I : Nat → Nat → Int32) (F : Nat → Nat → Option Nat) (A : Nat → Nat → Nat → Int32) (E : Nat → Nat → Nat → Option Nat) : Prop := ∃ r v lt sp, (Is b 11 o ∧ Is b 6 r ∧ Is b 8 v ∧ Is b 7 lt ∧ Is b 7 sp) ∧ (F o 7 = some r ∧ F o 8 = some v ∧ F v 0 = some lt ∧ F v 2 = some sp ∧ lt ≠ sp) ∧ ((∀ i i' z, i < 10 → i' < 10 → E r 0 i = some z → E r 0 i' = some z → i = i') ∧ ∀ i i' z, i < 10 → i' < 10 → E v 3 i = some z → E v 3 i' = some z → i = i') ∧ (A o 0 = q.tp ∧ ∀ i, -128 ≤ (q.tp i).toInt ∧ (q.tp i).toInt ≤ 127) ∧ (I lt 2).toInt = (q.sc : Int) ∧ KnR (I lt 1) q.sk ∧ ∀ i k, i < q.sc → i < 100 → k < 8 → q.sk k = true → A lt 0 (8 * i + k) = q.sv i k
def QR3 (o : Nat) (q : AT3) (x : HS) : Prop := ∃ (b : CT) (I : Nat → Nat → Int32) (F : Nat → Nat → Option Nat) (A : Nat → Nat → Nat → Int32) (E : Nat → Nat → Nat → Option Nat), x = cS b I F A E ∧ CB b ∧ QK o q b I F A E
def KQ (o N : Nat) (q : AT3) (x : HS) : Prop := KZ o N q.1 x ∧ QR3 o q x
theorem OFI_oF {ci j : Nat} (h : (ci, j) ∈ OFI) : oF ci j ≠ 0 ∧ ci ≠ 7 := by
  have : ∀ p, p ∈ OFI → oF p.1 p.2 ≠ 0 ∧ p.1 ≠ 7 := by decide
  exact this _ h
theorem KZ_cS {o N : Nat} {a : AS} {x : HS} (h : KZ o N a x) : ∃ (b : CT) (I : Nat → Nat → Int32) (F : Nat → Nat → Option Nat) (A : Nat → Nat → Nat → Int32) (E : Nat → Nat → Nat → Option Nat), x = cS b I F A E ∧ CB b := by
  obtain ⟨b, g, s, h', I, F, A, E, e, hk, -⟩ := h.1.1.1
  exact ⟨b, I, F, A, E, e, hk.1⟩
theorem QR_rg {o : Nat} {q : AT3} {x : HS} (h : QR3 o q x) : ∀ i, -128 ≤ (q.tp i).toInt ∧ (q.tp i).toInt ≤ 127 := by
  obtain ⟨b, I, F, A, E, -, -, r, v, lt, sp, -, -, -, ht, -⟩ := h
  exact ht.2
theorem QR_Kr {o : Nat} {q : AT3} {x : HS} (h : QR3 o q x) : ∃ K, Vs K x x ∧ ∀ u a' tp', Vs K x u → (∀ t, t ∈ x.LP → x.k t = 21 → x.F o 0 = some t → x.J t = q.tp → u.J t = tp') → (∀ i, -128 ≤ (tp' i).toInt ∧ (tp' i).toInt ≤ 127) → ∀ (b' : CT) (I' : Nat → Nat → Int32) (F' : Nat → Nat → Option Nat) (A' : Nat → Nat → Nat → Int32) (E' : Nat → Nat → Nat → Option Nat), u = cS b' I' F' A' E' → CB b' → QK o (a', tp', q.2.2) b' I' F' A' E' := by
  obtain ⟨b, I, F, A, E, rfl, hb, r, v, lt, sp, ⟨i1, i2, i3, i4, i5⟩, ⟨f1, f2, f3, f4, f5⟩, ⟨g1, g2⟩, ⟨t1, t2⟩, s1, s2, s3⟩ := h
  obtain ⟨k1, k2, k3, k4⟩ := c_arr hb i4 (j := 0) (by decide)
  refine ⟨b.ad lt 0, Vs_rf k2 (k3.trans (by decide)) (fun a j ha hj y => ?_), fun u a' tp' hv ht hrg b' I' F' A' E' eu hb' => ?_⟩
  · obtain ⟨y1, y2⟩ := OFI_oF hj
    have ia : Is b (b.B.k a) a := ⟨ha, rfl⟩
    have e : (cS b I F A E).F a j = some (b.ad a j) := cF_ow hb ia y1
    rw [e] at y
    have y := Option.some.inj y
    have h1 := (c_arr hb ia y1).1
    rw [y, k1] at h1
    have h1 := Option.some.inj h1
    have : lt = a := congrArg Prod.fst h1
    rw [← this] at y2
    exact y2 i4.2
  · subst eu
    obtain ⟨h1, ⟨-, -, hJ⟩, -⟩ := hv
    have is : ∀ {ci a : Nat}, Is b ci a → Is b' ci a := fun {ci a} ha => by
      obtain ⟨z1, z2, -⟩ := h1 a ha.1
      exact ⟨z1, z2.trans ha.2⟩
    have fx : ∀ {ci a j : Nat}, Is b ci a → (ci, j) ∈ OFX → cF b' F' a j = cF b F a j := fun {ci a j} ha hj => (h1 a ha.1).2.2.2.1 j (by rw [show (cS b I F A E).k a = ci from ha.2]; exact hj)
    have fn : ∀ {ci a j : Nat}, Is b ci a → (ci, j) ∈ OFX → oF ci j = 0 → F' a j = F a j := fun {ci a j} ha hj ho => by
      have := fx ha hj
      rw [cF_no hb' (is ha) ho, cF_no hb ha ho] at this; exact this
    have fa : ∀ {ci a j : Nat}, Is b ci a → (ci, j) ∈ OFX → oF ci j ≠ 0 → b'.ad a j = b.ad a j := fun {ci a j} ha hj ho => by
      have := fx ha hj
      rw [cF_ow hb' (is ha) ho, cF_ow hb ha ho] at this; exact Option.some.inj this
    have e7 : ∀ {z : Nat}, Is b 7 z → I' z = I z ∧ b'.ad z 0 = b.ad z 0 := fun {z} hz => by
      obtain ⟨y1, y2⟩ := (h1 z hz.1).2.2.1 hz.2
      refine ⟨y1, ?_⟩
      have y3 : cF b' F' z 0 = cF b F z 0 := congrFun y2 0
      rw [cF_ow hb' (is hz) (by decide), cF_ow hb hz (by decide)] at y3
      exact Option.some.inj y3
    have ee : ∀ {ci a j : Nat}, Is b ci a → (ci, j) ∈ OFX → (oF ci j = 26 ∨ oF ci j = 27) → ∀ i, E' a j i = E a j i := fun {ci a j} ha hj ho i => by
      have ho0 : oF ci j ≠ 0 := by omega
      have hk := (c_arr hb ha ho0).2
      have hg := (h1 (b.ad a j) hk.1).2.2.2.2 (by rw [show (cS b I F A E).k (b.ad a j) = oF ci j from hk.2.1]; exact ho)
      have hg : cG b' E' (b.ad a j) i = cG b E (b.ad a j) i := congrFun hg i
      rw [← fa ha hj ho0, cG_at hb' (is ha) ho0, fa ha hj ho0, cG_at hb ha ho0] at hg
      exact hg
    have aK : ∀ k, A' lt 0 k = A lt 0 k := fun k => by
      have hj : cJ b' A' (b.ad lt 0) k = cJ b A (b.ad lt 0) k := congrFun hJ k
      rw [← (e7 i4).2, cJ_at hb' (is i4) (by decide), (e7 i4).2, cJ_at hb i4 (by decide)] at hj
      exact hj
    have aT : A' o 0 = tp' := by
      have hk := (c_arr hb i1 (j := 0) (by decide)).2
      have hu := ht (b.ad o 0) hk.1 (hk.2.1.trans (by decide)) (cF_ow hb i1 (by decide)) (by
        rw [← t1]
        funext i
        exact cJ_at hb i1 (by decide))
      funext i
      have hu : cJ b' A' (b.ad o 0) i = tp' i := congrFun hu i
      rw [← fa i1 (by decide) (by decide), cJ_at hb' (is i1) (by decide)] at hu
      exact hu
    refine ⟨r, v, lt, sp, ⟨is i1, is i2, is i3, is i4, is i5⟩, ⟨by rw [fn i1 (by decide) (by decide)]; exact f1, by rw [fn i1 (by decide) (by decide)]; exact f2, by rw [fn i3 (by decide) (by decide)]; exact f3, by rw [fn i3 (by decide) (by decide)]; exact f4, f5⟩, ⟨fun i i' z h1 h2 h3 h4 => ?_, fun i i' z h1 h2 h3 h4 => ?_⟩, ⟨aT, hrg⟩, by rw [(e7 i4).1]; exact s1, by rw [(e7 i4).1]; exact s2, fun i k h1 h2 h3 h4 => by rw [aK]; exact s3 i k h1 h2 h3 h4⟩
    · rw [ee i2 (by decide) (by decide)] at h3 h4
      exact g1 i i' z h1 h2 h3 h4
    · rw [ee i3 (by decide) (by decide)] at h3 h4
      exact g2 i i' z h1 h2 h3 h4
theorem QR_K {o : Nat} {q : AT3} {x : HS} (h : QR3 o q x) : ∃ K, Vs K x x ∧ ∀ u a' tp', Vs K x u → (∀ t, t ∈ x.LP → x.k t = 21 → x.F o 0 = some t → x.J t = q.tp → u.J t = tp') → (∀ i, -128 ≤ (tp' i).toInt ∧ (tp' i).toInt ≤ 127) → (∃ (b' : CT) (I' : Nat → Nat → Int32) (F' : Nat → Nat → Option Nat) (A' : Nat → Nat → Nat → Int32) (E' : Nat → Nat → Nat → Option Nat), u = cS b' I' F' A' E' ∧ CB b') → QR3 o (a', tp', q.2.2) u := by
  obtain ⟨K, h1, h2⟩ := QR_Kr h
  refine ⟨K, h1, fun u a' tp' hv ht hrg hu => ?_⟩
  obtain ⟨b', I', F', A', E', e, hb'⟩ := hu
  exact ⟨b', I', F', A', E', e, hb', h2 u a' tp' hv ht hrg b' I' F' A' E' e hb'⟩
/-- in any other picture of the same heap -/
theorem QR_rep {o : Nat} {q : AT3} {b' : CT} {I' : Nat → Nat → Int32} {F' : Nat → Nat → Option Nat} {A' : Nat → Nat → Nat → Int32} {E' : Nat → Nat → Nat → Option Nat} (h : QR3 o q (cS b' I' F' A' E')) (hb' : CB b') : QK o q b' I' F' A' E' := by
  have hrg := QR_rg h
  obtain ⟨K, h1, h2⟩ := QR_Kr h
  exact h2 _ q.1 q.tp h1 (fun t _ _ _ h4 => h4) hrg b' I' F' A' E' rfl hb'

def OKq_end (qa : AT3) (n : Int32) : Int32 → Int32 → Prop := OK_end qa.1 n
def nxq_end (qa : AT3) (n : Int32) : AT3 := (nx_end qa.1 n, qa.2)
def OKq_value (qa : AT3) (k v : Int32) : Int32 → Int32 → Prop := OK_value qa.1 k v
def nxq_value (qa : AT3) (k v : Int32) : AT3 := (nx_value qa.1 k v, qa.2)
def OKq_table (qa : AT3) (n : Int32) : Int32 → Int32 → Prop := OK_table qa.1 n
def nxq_table (qa : AT3) (n : Int32) : AT3 := (nx_table qa.1 n, qa.2)
def OKq_index (qa : AT3) (t k : Int32) : Int32 → Int32 → Prop := OK_index qa.1 t k
def nxq_index (qa : AT3) (t k : Int32) : AT3 := (nx_index qa.1 t k, qa.2)
def OKq_key (qa : AT3) (t m : Int32) : Int32 → Int32 → Prop := OK_key qa.1 t m
def nxq_key (qa : AT3) (t m : Int32) : AT3 := (nx_key qa.1 t m, qa.2)
def OKq_add (qa : AT3) (t h' : Int32) : Int32 → Int32 → Prop := OK_add qa.1 t h'
def nxq_add (qa : AT3) (t h' : Int32) : AT3 := (nx_add qa.1 t h', qa.2)
def OKq_remove (qa : AT3) (t m l : Int32) : Int32 → Int32 → Prop := OK_remove qa.1 t m l
def nxq_remove (qa : AT3) (t m l : Int32) : AT3 := (nx_remove qa.1 t m l, qa.2)
def OKq_find (qa : AT3) (t m q : Int32) : Int32 → Int32 → Prop := OK_find qa.1 t m q
def nxq_find (qa : AT3) (t m q : Int32) : AT3 := (nx_find qa.1 t m q, qa.2)
def OKq_many (qa : AT3) (t m q : Int32) : Int32 → Int32 → Prop := OK_many qa.1 t m q
def nxq_many (qa : AT3) (t m q : Int32) : AT3 := (nx_many qa.1 t m q, qa.2)
def OKq_open (qa : AT3) (t m q : Int32) : Int32 → Int32 → Prop := OK_open qa.1 t m q
def nxq_open (qa : AT3) (t m q : Int32) : AT3 := (nx_open qa.1 t m q, qa.2)
def OKq_next (qa : AT3) (c : Int32) : Int32 → Int32 → Prop := OK_next qa.1 c
def nxq_next (qa : AT3) (c : Int32) : AT3 := (nx_next qa.1 c, qa.2)
def OKq_close (qa : AT3) (c : Int32) : Int32 → Int32 → Prop := OK_close qa.1 c
def nxq_close (qa : AT3) (c : Int32) : AT3 := (nx_close qa.1 c, qa.2)
def OKq_fact (qa : AT3) (n w : Int32) : Int32 → Int32 → Prop := OK_fact qa.1 n w
def nxq_fact (qa : AT3) (n w : Int32) : AT3 := (nx_fact qa.1 n w, qa.2)
def OKq_mark (qa : AT3) : Int32 → Int32 → Prop := OK_mark qa.1
def nxq_mark (qa : AT3) : AT3 := (nx_mark qa.1, qa.2)
def OKq_back (qa : AT3) (k : Int32) : Int32 → Int32 → Prop := OK_back qa.1 k
def nxq_back (qa : AT3) (k : Int32) : AT3 := (nx_back qa.1 k, qa.2)
def OKq_purge (qa : AT3) (q : Int32) : Int32 → Int32 → Prop := OK_purge qa.1 q
def nxq_purge (qa : AT3) (q : Int32) : AT3 := (nx_purge qa.1 q, qa.2)
def OKq_changes (qa : AT3) (t p q : Int32) : Int32 → Int32 → Prop := OK_changes qa.1 t p q
def nxq_changes (qa : AT3) (t p q : Int32) : AT3 := (nx_changes qa.1 t p q, qa.2)
def OKq_found (qa : AT3) (i : Int32) : Int32 → Int32 → Prop := OK_found qa.1 i
def nxq_found (qa : AT3) (i : Int32) : AT3 := (nx_found qa.1 i, qa.2)
def OKq_count (qa : AT3) (p1 : Int32) : Int32 → Int32 → Prop := OK_count qa.1 p1
def nxq_count (qa : AT3) (p1 : Int32) : AT3 := (nx_count qa.1 p1, qa.2)
section KQS
variable {o N : Nat} {qa : AT3} {x : HS}
theorem KQ_o (h : KQ o N qa x) : o ∈ x.LP ∧ x.k o = 11 := KZ_o h.1
theorem kq_end (hk : KQ o (N + 1) qa x) (hW : AVW qa.1) (n : Int32) : w_X11_end (some o) n x (fun r u => OKq_end qa n 0 r ∧ KQ o N (nxq_end qa n) u) (fun E u => (E = eIA ∧ OKq_end qa n 1 0) ∧ KQ o N (nxq_end qa n) u) := by
  obtain ⟨K, hv, hfr⟩ := QR_K hk.2
  have hrg := QR_rg hk.2
  refine fk_X11_end (K := K) (x0 := x) (fun r u hu hq => ?_) (fun e u hu hq => ?_) hv (fr_X11_end (P := Vb x) (Vb_clo (by decide)) (fun r u hb hq => (⟨hq, hb⟩ : _ ∧ Vb x u)) (fun e u hb hq => (⟨hq, hb⟩ : _ ∧ Vb x u)) Vb_rf (kz_end hk.1 hW n))
  · exact ⟨hq.1.1, hq.1.2, hfr u _ qa.tp hu (fun t h1 h2 h3 h4 => ((hq.2 t h1).2.2 h2).trans h4) hrg (KZ_cS hq.1.2)⟩
  · exact ⟨hq.1.1, hq.1.2, hfr u _ qa.tp hu (fun t h1 h2 h3 h4 => ((hq.2 t h1).2.2 h2).trans h4) hrg (KZ_cS hq.1.2)⟩
theorem kq_value (hk : KQ o (N + 1) qa x) (hW : AVW qa.1) (k v : Int32) : w_X11_value (some o) k v x (fun r u => OKq_value qa k v 0 r ∧ KQ o N (nxq_value qa k v) u) (fun E u => (E = eIA ∧ OKq_value qa k v 1 0) ∧ KQ o N (nxq_value qa k v) u) := by
  obtain ⟨K, hv, hfr⟩ := QR_K hk.2
  have hrg := QR_rg hk.2
  refine fk_X11_value (K := K) (x0 := x) (fun r u hu hq => ?_) (fun e u hu hq => ?_) hv (fr_X11_value (P := Vb x) (Vb_clo (by decide)) (fun r u hb hq => (⟨hq, hb⟩ : _ ∧ Vb x u)) (fun e u hb hq => (⟨hq, hb⟩ : _ ∧ Vb x u)) Vb_rf (kz_value hk.1 hW k v))
  · exact ⟨hq.1.1, hq.1.2, hfr u _ qa.tp hu (fun t h1 h2 h3 h4 => ((hq.2 t h1).2.2 h2).trans h4) hrg (KZ_cS hq.1.2)⟩
  · exact ⟨hq.1.1, hq.1.2, hfr u _ qa.tp hu (fun t h1 h2 h3 h4 => ((hq.2 t h1).2.2 h2).trans h4) hrg (KZ_cS hq.1.2)⟩
theorem kq_table (hk : KQ o (N + 1) qa x) (hW : AVW qa.1) (n : Int32) : w_X11_table (some o) n x (fun r u => OKq_table qa n 0 r ∧ KQ o N (nxq_table qa n) u) (fun E u => (E = eIA ∧ OKq_table qa n 1 0 ∨ E = eIS ∧ OKq_table qa n 2 0) ∧ KQ o N (nxq_table qa n) u) := by
  obtain ⟨K, hv, hfr⟩ := QR_K hk.2
  have hrg := QR_rg hk.2
  refine fk_X11_table (K := K) (x0 := x) (fun r u hu hq => ?_) (fun e u hu hq => ?_) hv (fr_X11_table (P := Vb x) (Vb_clo (by decide)) (fun r u hb hq => (⟨hq, hb⟩ : _ ∧ Vb x u)) (fun e u hb hq => (⟨hq, hb⟩ : _ ∧ Vb x u)) Vb_rf (kz_table hk.1 hW n))
  · exact ⟨hq.1.1, hq.1.2, hfr u _ qa.tp hu (fun t h1 h2 h3 h4 => ((hq.2 t h1).2.2 h2).trans h4) hrg (KZ_cS hq.1.2)⟩
  · exact ⟨hq.1.1, hq.1.2, hfr u _ qa.tp hu (fun t h1 h2 h3 h4 => ((hq.2 t h1).2.2 h2).trans h4) hrg (KZ_cS hq.1.2)⟩
theorem kq_index (hk : KQ o (N + 1) qa x) (hW : AVW qa.1) (t k : Int32) : w_X11_index (some o) t k x (fun r u => OKq_index qa t k 0 r ∧ KQ o N (nxq_index qa t k) u) (fun E u => (E = eIA ∧ OKq_index qa t k 2 0 ∨ E = eNE ∧ OKq_index qa t k 1 0) ∧ KQ o N (nxq_index qa t k) u) := by
  obtain ⟨K, hv, hfr⟩ := QR_K hk.2
  have hrg := QR_rg hk.2
  refine fk_X11_index (K := K) (x0 := x) (fun r u hu hq => ?_) (fun e u hu hq => ?_) hv (fr_X11_index (P := Vb x) (Vb_clo (by decide)) (fun r u hb hq => (⟨hq, hb⟩ : _ ∧ Vb x u)) (fun e u hb hq => (⟨hq, hb⟩ : _ ∧ Vb x u)) Vb_rf (kz_index hk.1 hW t k))
  · exact ⟨hq.1.1, hq.1.2, hfr u _ qa.tp hu (fun t h1 h2 h3 h4 => ((hq.2 t h1).2.2 h2).trans h4) hrg (KZ_cS hq.1.2)⟩
  · exact ⟨hq.1.1, hq.1.2, hfr u _ qa.tp hu (fun t h1 h2 h3 h4 => ((hq.2 t h1).2.2 h2).trans h4) hrg (KZ_cS hq.1.2)⟩
theorem kq_key (hk : KQ o (N + 1) qa x) (hW : AVW qa.1) (t m : Int32) : w_X11_key (some o) t m x (fun r u => OKq_key qa t m 0 r ∧ KQ o N (nxq_key qa t m) u) (fun E u => (E = eIA ∧ OKq_key qa t m 2 0 ∨ E = eNE ∧ OKq_key qa t m 1 0 ∨ E = eIS ∧ OKq_key qa t m 3 0 ∨ E = eIB ∧ OKq_key qa t m 4 0) ∧ KQ o N (nxq_key qa t m) u) := by
  obtain ⟨K, hv, hfr⟩ := QR_K hk.2
  have hrg := QR_rg hk.2
  refine fk_X11_key (K := K) (x0 := x) (fun r u hu hq => ?_) (fun e u hu hq => ?_) hv (fr_X11_key (P := Vb x) (Vb_clo (by decide)) (fun r u hb hq => (⟨hq, hb⟩ : _ ∧ Vb x u)) (fun e u hb hq => (⟨hq, hb⟩ : _ ∧ Vb x u)) Vb_rf (kz_key hk.1 hW t m))
  · exact ⟨hq.1.1, hq.1.2, hfr u _ qa.tp hu (fun t h1 h2 h3 h4 => ((hq.2 t h1).2.2 h2).trans h4) hrg (KZ_cS hq.1.2)⟩
  · exact ⟨hq.1.1, hq.1.2, hfr u _ qa.tp hu (fun t h1 h2 h3 h4 => ((hq.2 t h1).2.2 h2).trans h4) hrg (KZ_cS hq.1.2)⟩
theorem kq_add (hk : KQ o (N + 1) qa x) (hW : AVW qa.1) (t h' : Int32) : w_X11_add (some o) t h' x (fun r u => OKq_add qa t h' 0 r ∧ KQ o N (nxq_add qa t h') u) (fun E u => (E = eIA ∧ OKq_add qa t h' 1 0 ∨ E = eNE ∧ OKq_add qa t h' 2 0 ∨ E = eUO ∧ OKq_add qa t h' 3 0 ∨ E = eIS ∧ OKq_add qa t h' 4 0) ∧ KQ o N (nxq_add qa t h') u) := by
  obtain ⟨K, hv, hfr⟩ := QR_K hk.2
  have hrg := QR_rg hk.2
  refine fk_X11_add (K := K) (x0 := x) (fun r u hu hq => ?_) (fun e u hu hq => ?_) hv (fr_X11_add (P := Vb x) (Vb_clo (by decide)) (fun r u hb hq => (⟨hq, hb⟩ : _ ∧ Vb x u)) (fun e u hb hq => (⟨hq, hb⟩ : _ ∧ Vb x u)) Vb_rf (kz_add hk.1 hW t h'))
  · exact ⟨hq.1.1, hq.1.2, hfr u _ qa.tp hu (fun t h1 h2 h3 h4 => ((hq.2 t h1).2.2 h2).trans h4) hrg (KZ_cS hq.1.2)⟩
  · exact ⟨hq.1.1, hq.1.2, hfr u _ qa.tp hu (fun t h1 h2 h3 h4 => ((hq.2 t h1).2.2 h2).trans h4) hrg (KZ_cS hq.1.2)⟩
theorem kq_remove (hk : KQ o (N + 1) qa x) (hW : AVW qa.1) (t m l : Int32) : w_X11_remove (some o) t m l x (fun r u => OKq_remove qa t m l 0 r ∧ KQ o N (nxq_remove qa t m l) u) (fun E u => (E = eIA ∧ OKq_remove qa t m l 1 0 ∨ E = eNE ∧ OKq_remove qa t m l 2 0) ∧ KQ o N (nxq_remove qa t m l) u) := by
  obtain ⟨K, hv, hfr⟩ := QR_K hk.2
  have hrg := QR_rg hk.2
  refine fk_X11_remove (K := K) (x0 := x) (fun r u hu hq => ?_) (fun e u hu hq => ?_) hv (fr_X11_remove (P := Vb x) (Vb_clo (by decide)) (fun r u hb hq => (⟨hq, hb⟩ : _ ∧ Vb x u)) (fun e u hb hq => (⟨hq, hb⟩ : _ ∧ Vb x u)) Vb_rf (kz_remove hk.1 hW t m l))
  · exact ⟨hq.1.1, hq.1.2, hfr u _ qa.tp hu (fun t h1 h2 h3 h4 => ((hq.2 t h1).2.2 h2).trans h4) hrg (KZ_cS hq.1.2)⟩
  · exact ⟨hq.1.1, hq.1.2, hfr u _ qa.tp hu (fun t h1 h2 h3 h4 => ((hq.2 t h1).2.2 h2).trans h4) hrg (KZ_cS hq.1.2)⟩
theorem kq_find (hk : KQ o (N + 1) qa x) (hW : AVW qa.1) (t m q : Int32) : w_X11_find (some o) t m q x (fun r u => OKq_find qa t m q 0 r ∧ KQ o N (nxq_find qa t m q) u) (fun E u => (E = eIA ∧ OKq_find qa t m q 1 0 ∨ E = eNE ∧ OKq_find qa t m q 2 0) ∧ KQ o N (nxq_find qa t m q) u) := by
  obtain ⟨K, hv, hfr⟩ := QR_K hk.2
  have hrg := QR_rg hk.2
  refine fk_X11_find (K := K) (x0 := x) (fun r u hu hq => ?_) (fun e u hu hq => ?_) hv (fr_X11_find (P := Vb x) (Vb_clo (by decide)) (fun r u hb hq => (⟨hq, hb⟩ : _ ∧ Vb x u)) (fun e u hb hq => (⟨hq, hb⟩ : _ ∧ Vb x u)) Vb_rf (kz_find hk.1 hW t m q))
  · exact ⟨hq.1.1, hq.1.2, hfr u _ qa.tp hu (fun t h1 h2 h3 h4 => ((hq.2 t h1).2.2 h2).trans h4) hrg (KZ_cS hq.1.2)⟩
  · exact ⟨hq.1.1, hq.1.2, hfr u _ qa.tp hu (fun t h1 h2 h3 h4 => ((hq.2 t h1).2.2 h2).trans h4) hrg (KZ_cS hq.1.2)⟩
theorem kq_many (hk : KQ o (N + 1) qa x) (hW : AVW qa.1) (t m q : Int32) : w_X11_many (some o) t m q x (fun r u => OKq_many qa t m q 0 r ∧ KQ o N (nxq_many qa t m q) u) (fun E u => (E = eIA ∧ OKq_many qa t m q 1 0 ∨ E = eNE ∧ OKq_many qa t m q 2 0) ∧ KQ o N (nxq_many qa t m q) u) := by
  obtain ⟨K, hv, hfr⟩ := QR_K hk.2
  have hrg := QR_rg hk.2
  refine fk_X11_many (K := K) (x0 := x) (fun r u hu hq => ?_) (fun e u hu hq => ?_) hv (fr_X11_many (P := Vb x) (Vb_clo (by decide)) (fun r u hb hq => (⟨hq, hb⟩ : _ ∧ Vb x u)) (fun e u hb hq => (⟨hq, hb⟩ : _ ∧ Vb x u)) Vb_rf (kz_many hk.1 hW t m q))
  · exact ⟨hq.1.1, hq.1.2, hfr u _ qa.tp hu (fun t h1 h2 h3 h4 => ((hq.2 t h1).2.2 h2).trans h4) hrg (KZ_cS hq.1.2)⟩
  · exact ⟨hq.1.1, hq.1.2, hfr u _ qa.tp hu (fun t h1 h2 h3 h4 => ((hq.2 t h1).2.2 h2).trans h4) hrg (KZ_cS hq.1.2)⟩
theorem kq_open (hk : KQ o (N + 1) qa x) (hW : AVW qa.1) (t m q : Int32) : w_X11_open (some o) t m q x (fun r u => OKq_open qa t m q 0 r ∧ KQ o N (nxq_open qa t m q) u) (fun E u => (E = eIA ∧ OKq_open qa t m q 1 0 ∨ E = eNE ∧ OKq_open qa t m q 2 0 ∨ E = eIS ∧ OKq_open qa t m q 3 0) ∧ KQ o N (nxq_open qa t m q) u) := by
  obtain ⟨K, hv, hfr⟩ := QR_K hk.2
  have hrg := QR_rg hk.2
  refine fk_X11_open (K := K) (x0 := x) (fun r u hu hq => ?_) (fun e u hu hq => ?_) hv (fr_X11_open (P := Vb x) (Vb_clo (by decide)) (fun r u hb hq => (⟨hq, hb⟩ : _ ∧ Vb x u)) (fun e u hb hq => (⟨hq, hb⟩ : _ ∧ Vb x u)) Vb_rf (kz_open hk.1 hW t m q))
  · exact ⟨hq.1.1, hq.1.2, hfr u _ qa.tp hu (fun t h1 h2 h3 h4 => ((hq.2 t h1).2.2 h2).trans h4) hrg (KZ_cS hq.1.2)⟩
  · exact ⟨hq.1.1, hq.1.2, hfr u _ qa.tp hu (fun t h1 h2 h3 h4 => ((hq.2 t h1).2.2 h2).trans h4) hrg (KZ_cS hq.1.2)⟩
theorem kq_next (hk : KQ o (N + 1) qa x) (hW : AVW qa.1) (c : Int32) : w_X11_next (some o) c x (fun r u => OKq_next qa c 0 r ∧ KQ o N (nxq_next qa c) u) (fun E u => (E = eIA ∧ OKq_next qa c 1 0 ∨ E = eNE ∧ OKq_next qa c 2 0) ∧ KQ o N (nxq_next qa c) u) := by
  obtain ⟨K, hv, hfr⟩ := QR_K hk.2
  have hrg := QR_rg hk.2
  refine fk_X11_next (K := K) (x0 := x) (fun r u hu hq => ?_) (fun e u hu hq => ?_) hv (fr_X11_next (P := Vb x) (Vb_clo (by decide)) (fun r u hb hq => (⟨hq, hb⟩ : _ ∧ Vb x u)) (fun e u hb hq => (⟨hq, hb⟩ : _ ∧ Vb x u)) Vb_rf (kz_next hk.1 hW c))
  · exact ⟨hq.1.1, hq.1.2, hfr u _ qa.tp hu (fun t h1 h2 h3 h4 => ((hq.2 t h1).2.2 h2).trans h4) hrg (KZ_cS hq.1.2)⟩
  · exact ⟨hq.1.1, hq.1.2, hfr u _ qa.tp hu (fun t h1 h2 h3 h4 => ((hq.2 t h1).2.2 h2).trans h4) hrg (KZ_cS hq.1.2)⟩
theorem kq_close (hk : KQ o (N + 1) qa x) (hW : AVW qa.1) (c : Int32) : w_X11_close (some o) c x (fun r u => OKq_close qa c 0 r ∧ KQ o N (nxq_close qa c) u) (fun E u => (E = eIA ∧ OKq_close qa c 1 0 ∨ E = eNE ∧ OKq_close qa c 2 0) ∧ KQ o N (nxq_close qa c) u) := by
  obtain ⟨K, hv, hfr⟩ := QR_K hk.2
  have hrg := QR_rg hk.2
  refine fk_X11_close (K := K) (x0 := x) (fun r u hu hq => ?_) (fun e u hu hq => ?_) hv (fr_X11_close (P := Vb x) (Vb_clo (by decide)) (fun r u hb hq => (⟨hq, hb⟩ : _ ∧ Vb x u)) (fun e u hb hq => (⟨hq, hb⟩ : _ ∧ Vb x u)) Vb_rf (kz_close hk.1 hW c))
  · exact ⟨hq.1.1, hq.1.2, hfr u _ qa.tp hu (fun t h1 h2 h3 h4 => ((hq.2 t h1).2.2 h2).trans h4) hrg (KZ_cS hq.1.2)⟩
  · exact ⟨hq.1.1, hq.1.2, hfr u _ qa.tp hu (fun t h1 h2 h3 h4 => ((hq.2 t h1).2.2 h2).trans h4) hrg (KZ_cS hq.1.2)⟩
theorem kq_fact (hk : KQ o (N + 1) qa x) (hW : AVW qa.1) (n w : Int32) : w_X11_fact (some o) n w x (fun r u => OKq_fact qa n w 0 r ∧ KQ o N (nxq_fact qa n w) u) (fun E u => (E = eIA ∧ OKq_fact qa n w 1 0 ∨ E = eNE ∧ OKq_fact qa n w 2 0) ∧ KQ o N (nxq_fact qa n w) u) := by
  obtain ⟨K, hv, hfr⟩ := QR_K hk.2
  have hrg := QR_rg hk.2
  refine fk_X11_fact (K := K) (x0 := x) (fun r u hu hq => ?_) (fun e u hu hq => ?_) hv (fr_X11_fact (P := Vb x) (Vb_clo (by decide)) (fun r u hb hq => (⟨hq, hb⟩ : _ ∧ Vb x u)) (fun e u hb hq => (⟨hq, hb⟩ : _ ∧ Vb x u)) Vb_rf (kz_fact hk.1 hW n w))
  · exact ⟨hq.1.1, hq.1.2, hfr u _ qa.tp hu (fun t h1 h2 h3 h4 => ((hq.2 t h1).2.2 h2).trans h4) hrg (KZ_cS hq.1.2)⟩
  · exact ⟨hq.1.1, hq.1.2, hfr u _ qa.tp hu (fun t h1 h2 h3 h4 => ((hq.2 t h1).2.2 h2).trans h4) hrg (KZ_cS hq.1.2)⟩
theorem kq_mark (hk : KQ o (N + 1) qa x) (hW : AVW qa.1) : w_X11_mark (some o) x (fun r u => OKq_mark qa 0 r ∧ KQ o N (nxq_mark qa) u) (fun E u => (E = eIS ∧ OKq_mark qa 1 0) ∧ KQ o N (nxq_mark qa) u) := by
  obtain ⟨K, hv, hfr⟩ := QR_K hk.2
  have hrg := QR_rg hk.2
  refine fk_X11_mark (K := K) (x0 := x) (fun r u hu hq => ?_) (fun e u hu hq => ?_) hv (fr_X11_mark (P := Vb x) (Vb_clo (by decide)) (fun r u hb hq => (⟨hq, hb⟩ : _ ∧ Vb x u)) (fun e u hb hq => (⟨hq, hb⟩ : _ ∧ Vb x u)) Vb_rf (kz_mark hk.1 hW))
  · exact ⟨hq.1.1, hq.1.2, hfr u _ qa.tp hu (fun t h1 h2 h3 h4 => ((hq.2 t h1).2.2 h2).trans h4) hrg (KZ_cS hq.1.2)⟩
  · exact ⟨hq.1.1, hq.1.2, hfr u _ qa.tp hu (fun t h1 h2 h3 h4 => ((hq.2 t h1).2.2 h2).trans h4) hrg (KZ_cS hq.1.2)⟩
theorem kq_back (hk : KQ o (N + 1) qa x) (hW : AVW qa.1) (k : Int32) : w_X11_back (some o) k x (fun r u => OKq_back qa k 0 r ∧ KQ o N (nxq_back qa k) u) (fun E u => (E = eIS ∧ OKq_back qa k 1 0) ∧ KQ o N (nxq_back qa k) u) := by
  obtain ⟨K, hv, hfr⟩ := QR_K hk.2
  have hrg := QR_rg hk.2
  refine fk_X11_back (K := K) (x0 := x) (fun r u hu hq => ?_) (fun e u hu hq => ?_) hv (fr_X11_back (P := Vb x) (Vb_clo (by decide)) (fun r u hb hq => (⟨hq, hb⟩ : _ ∧ Vb x u)) (fun e u hb hq => (⟨hq, hb⟩ : _ ∧ Vb x u)) Vb_rf (kz_back hk.1 hW k))
  · exact ⟨hq.1.1, hq.1.2, hfr u _ qa.tp hu (fun t h1 h2 h3 h4 => ((hq.2 t h1).2.2 h2).trans h4) hrg (KZ_cS hq.1.2)⟩
  · exact ⟨hq.1.1, hq.1.2, hfr u _ qa.tp hu (fun t h1 h2 h3 h4 => ((hq.2 t h1).2.2 h2).trans h4) hrg (KZ_cS hq.1.2)⟩
theorem kq_purge (hk : KQ o (N + 1) qa x) (hW : AVW qa.1) (q : Int32) : w_X11_purge (some o) q x (fun r u => OKq_purge qa q 0 r ∧ KQ o N (nxq_purge qa q) u) (fun E u => (E = eIA ∧ OKq_purge qa q 1 0 ∨ E = eIS ∧ OKq_purge qa q 2 0) ∧ KQ o N (nxq_purge qa q) u) := by
  obtain ⟨K, hv, hfr⟩ := QR_K hk.2
  have hrg := QR_rg hk.2
  refine fk_X11_purge (K := K) (x0 := x) (fun r u hu hq => ?_) (fun e u hu hq => ?_) hv (fr_X11_purge (P := Vb x) (Vb_clo (by decide)) (fun r u hb hq => (⟨hq, hb⟩ : _ ∧ Vb x u)) (fun e u hb hq => (⟨hq, hb⟩ : _ ∧ Vb x u)) Vb_rf (kz_purge hk.1 hW q))
  · exact ⟨hq.1.1, hq.1.2, hfr u _ qa.tp hu (fun t h1 h2 h3 h4 => ((hq.2 t h1).2.2 h2).trans h4) hrg (KZ_cS hq.1.2)⟩
  · exact ⟨hq.1.1, hq.1.2, hfr u _ qa.tp hu (fun t h1 h2 h3 h4 => ((hq.2 t h1).2.2 h2).trans h4) hrg (KZ_cS hq.1.2)⟩
theorem kq_changes (hk : KQ o (N + 1) qa x) (hW : AVW qa.1) (t p q : Int32) : w_X11_changes (some o) t p q x (fun r u => OKq_changes qa t p q 0 r ∧ KQ o N (nxq_changes qa t p q) u) (fun E u => (E = eIA ∧ OKq_changes qa t p q 1 0 ∨ E = eNE ∧ OKq_changes qa t p q 2 0) ∧ KQ o N (nxq_changes qa t p q) u) := by
  obtain ⟨K, hv, hfr⟩ := QR_K hk.2
  have hrg := QR_rg hk.2
  refine fk_X11_changes (K := K) (x0 := x) (fun r u hu hq => ?_) (fun e u hu hq => ?_) hv (fr_X11_changes (P := Vb x) (Vb_clo (by decide)) (fun r u hb hq => (⟨hq, hb⟩ : _ ∧ Vb x u)) (fun e u hb hq => (⟨hq, hb⟩ : _ ∧ Vb x u)) Vb_rf (kz_changes hk.1 hW t p q))
  · exact ⟨hq.1.1, hq.1.2, hfr u _ qa.tp hu (fun t h1 h2 h3 h4 => ((hq.2 t h1).2.2 h2).trans h4) hrg (KZ_cS hq.1.2)⟩
  · exact ⟨hq.1.1, hq.1.2, hfr u _ qa.tp hu (fun t h1 h2 h3 h4 => ((hq.2 t h1).2.2 h2).trans h4) hrg (KZ_cS hq.1.2)⟩
theorem kq_found (hk : KQ o (N + 1) qa x) (hW : AVW qa.1) (i : Int32) : w_X11_found (some o) i x (fun r u => OKq_found qa i 0 r ∧ KQ o N (nxq_found qa i) u) (fun E u => (E = eIB ∧ OKq_found qa i 1 0) ∧ KQ o N (nxq_found qa i) u) := by
  obtain ⟨K, hv, hfr⟩ := QR_K hk.2
  have hrg := QR_rg hk.2
  refine fk_X11_found (K := K) (x0 := x) (fun r u hu hq => ?_) (fun e u hu hq => ?_) hv (fr_X11_found (P := Vb x) (Vb_clo (by decide)) (fun r u hb hq => (⟨hq, hb⟩ : _ ∧ Vb x u)) (fun e u hb hq => (⟨hq, hb⟩ : _ ∧ Vb x u)) Vb_rf (kz_found hk.1 hW i))
  · exact ⟨hq.1.1, hq.1.2, hfr u _ qa.tp hu (fun t h1 h2 h3 h4 => ((hq.2 t h1).2.2 h2).trans h4) hrg (KZ_cS hq.1.2)⟩
  · exact ⟨hq.1.1, hq.1.2, hfr u _ qa.tp hu (fun t h1 h2 h3 h4 => ((hq.2 t h1).2.2 h2).trans h4) hrg (KZ_cS hq.1.2)⟩
theorem kq_count (hk : KQ o (N + 1) qa x) (hW : AVW qa.1) (p1 : Int32) : w_X11_count (some o) p1 x (fun r u => OKq_count qa p1 0 r ∧ KQ o N (nxq_count qa p1) u) (fun E u => (E = eIA ∧ OKq_count qa p1 1 0) ∧ KQ o N (nxq_count qa p1) u) := by
  obtain ⟨K, hv, hfr⟩ := QR_K hk.2
  have hrg := QR_rg hk.2
  refine fk_X11_count (K := K) (x0 := x) (fun r u hu hq => ?_) (fun e u hu hq => ?_) hv (fr_X11_count (P := Vb x) (Vb_clo (by decide)) (fun r u hb hq => (⟨hq, hb⟩ : _ ∧ Vb x u)) (fun e u hb hq => (⟨hq, hb⟩ : _ ∧ Vb x u)) Vb_rf (kz_count hk.1 hW p1))
  · exact ⟨hq.1.1, hq.1.2, hfr u _ qa.tp hu (fun t h1 h2 h3 h4 => ((hq.2 t h1).2.2 h2).trans h4) hrg (KZ_cS hq.1.2)⟩
  · exact ⟨hq.1.1, hq.1.2, hfr u _ qa.tp hu (fun t h1 h2 h3 h4 => ((hq.2 t h1).2.2 h2).trans h4) hrg (KZ_cS hq.1.2)⟩
end KQS
