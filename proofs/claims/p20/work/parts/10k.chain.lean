/-! A CHAIN: a list of addresses, each with the next behind it (nx), the last with none -/
def Lk (nx : Nat → Option Nat) : List Nat → Prop
  | [] => True
  | x :: L => nx x = L.head? ∧ Lk nx L
theorem Lk_congr {nx ny : Nat → Option Nat} : ∀ {L : List Nat}, (∀ x ∈ L, ny x = nx x) → Lk nx L → Lk ny L
  | [], _, _ => trivial
  | x :: L, h, hk => ⟨(h x List.mem_cons_self).trans hk.1, Lk_congr (L := L) (fun y hy => h y (List.mem_cons_of_mem _ hy)) hk.2⟩
theorem Lk_up {nx : Nat → Option Nat} {L : List Nat} {f : Nat} {v : Option Nat} (hf : f ∉ L) (hk : Lk nx L) : Lk (va_up nx f v) L :=
  Lk_congr (fun x hx => va_up_ne _ _ (fun q => hf (q ▸ hx))) hk
/-- put ahead of all -/
theorem Lk_ahead {nx : Nat → Option Nat} {L : List Nat} {f : Nat} (hf : f ∉ L) (hk : Lk nx L) : Lk (va_up nx f L.head?) (f :: L) :=
  ⟨va_up_self _ _ _, Lk_up hf hk⟩
theorem Lk_tail {nx : Nat → Option Nat} : ∀ {P S : List Nat}, Lk nx (P ++ S) → Lk nx S
  | [], _, h => h
  | _ :: P, _, h => Lk_tail (P := P) h.2
/-- what stands behind x -/
theorem Lk_next {nx : Nat → Option Nat} {P S : List Nat} {x : Nat} (h : Lk nx (P ++ x :: S)) : nx x = S.head? := (Lk_tail h).1
theorem Lk_mem {nx : Nat → Option Nat} {L : List Nat} {x : Nat} (h : Lk nx L) (hx : x ∈ L) : ∃ P S, L = P ++ x :: S ∧ nx x = S.head? := by
  obtain ⟨P, S, rfl⟩ := List.append_of_mem hx
  exact ⟨P, S, rfl, Lk_next h⟩
/-- the next of one in the chain is in the chain -/
theorem Lk_in {nx : Nat → Option Nat} {L : List Nat} {x y : Nat} (h : Lk nx L) (hx : x ∈ L) (hy : nx x = some y) : y ∈ L := by
  obtain ⟨P, S, rfl, h2⟩ := Lk_mem h hx
  rw [hy] at h2
  cases S with
  | nil => simp at h2
  | cons z S =>
    simp at h2
    subst h2
    simp
/-- put behind x, who is in the chain -/
theorem Lk_after {nx : Nat → Option Nat} {f x : Nat} : ∀ {P S : List Nat}, (P ++ x :: S).Nodup → f ∉ P ++ x :: S → Lk nx (P ++ x :: S) → Lk (va_up (va_up nx f (nx x)) x (some f)) (P ++ x :: f :: S)
  | [], S, hn, hf, hk => by
    have hfx : f ≠ x := fun q => hf (by rw [q]; simp)
    have hxS : x ∉ S := (List.nodup_cons.mp hn).1
    have hfS : f ∉ S := fun q => hf (List.mem_cons_of_mem _ q)
    refine ⟨va_up_self _ _ _, ?_, ?_⟩
    · rw [va_up_ne _ _ hfx, va_up_self]; exact hk.1
    · exact Lk_up hxS (Lk_up hfS hk.2)
  | y :: P, S, hn, hf, hk => by
    have hn2 := List.nodup_cons.mp hn
    have hyx : y ≠ x := fun q => hn2.1 (by rw [q]; simp)
    have hyf : y ≠ f := fun q => hf (by rw [← q]; simp)
    refine ⟨?_, Lk_after (P := P) hn2.2 (fun q => hf (List.mem_cons_of_mem _ q)) hk.2⟩
    show va_up (va_up nx f (nx x)) x (some f) y = (P ++ x :: f :: S).head?
    rw [va_up_ne _ _ hyx, va_up_ne _ _ hyf, hk.1]
    cases P <;> rfl
/-- put behind the last -/
theorem Lk_behind {nx : Nat → Option Nat} {f x : Nat} {P : List Nat} (hn : (P ++ [x]).Nodup) (hf : f ∉ P ++ [x]) (hk : Lk nx (P ++ [x])) : Lk (va_up (va_up nx f (nx x)) x (some f)) (P ++ [x] ++ [f]) := by
  have := Lk_after (S := []) hn hf hk
  rw [List.append_assoc]
  exact this
