set_option linter.unusedVariables false
set_option linter.unusedSimpArgs false
/-! the reference: solving, a table's goal -/
section SZB
variable {b : MT} {fi fi' fi'' : Nat → Int32} {ar ar' ar'' : Nat → Nat → Int32} {a : AS} {sl : Nat → Nat} {Ga Gs Gs0 : List QG} {G : QG} {env : Nat → Int32} {kn kf : Nat → Bool} {R s : SQ} {T : Int32} {st st0 : List Pd} {v : Int32 × Int32 × Int32} {X X' : String → HS → Prop} {QI QI' : Int32 → HS → Prop} {again again' : Int32 × Int32 × Int32 → HS → Prop}
theorem ns_solTb (hb : MB b) (hS : SMh a sl Ga fi ar) (hV : AV a) (hch : KnCh a.tn a.co kf Ga (fun _ => false)) (q1 : s.1 ≤ mostL) (q2 : fi 38 = Int32.ofNat s.1) (q3 : v.1.toInt = (s.2.1 : Int)) (q4 : KpM kf s ar) (u1 : Ga = pdG st0 ++ G :: Gs0) (u2 : v.2.1.toInt = (st0.length : Int)) (u3 : StOk a sl ar st0) (u4 : ∀ p, p ∈ st0 → ∀ j, p.1.kn j = true → G.kn j = true) (u5 : EnvM G.kn env ar) (hc : s.2.1 ≤ s.1 + 1) (k0 : G.kd = 0) {from_ : Int32} {L : List Nat} (hLn : LnK (ar 18) from_ (L.map sl)) (hLs : ∃ P, a.rw G.tb = P ++ L) (hRe : R = retQ a T.toInt st0 (G :: Gs0) (foldQ a T.toInt G env (fun x s => solA a T.toInt Gs0 (bindE a env G x) s) L s)) (ha : ∀ v' fi' ar', FrSv fi fi' ar ar' → SvI a sl Ga kf R T.toInt v' fi' ar' → again v' (mS b fi' ar') → again' v' (mS b fi' ar')) :
          (wRecv (mS b fi ar) 12 (some b.o) (w_X12_match (some b.o) v.2.1 from_ T (mS b fi ar) (fun v25 x24 => wIf (0 ≤ v25) (wIf ((0 : Int32) = 0) (wGetF x24 12 51 (some b.o) fun v32 => wAstI x24 v32 v.2.1 v25 fun x33 => wRecv x33 12 (some b.o) (w_X12_give (some b.o) v.2.1 v25 x33 (fun x34 => again (v.1, v.2.1 + 1, 0) x34) X)) (again (v.1, v.2.1 + (-1), 0) x24)) (wIf ((1 : Int32) = 0) (wGetF x24 12 51 (some b.o) fun v32 => wAstI x24 v32 v.2.1 v25 fun x33 => wRecv x33 12 (some b.o) (w_X12_give (some b.o) v.2.1 v25 x33 (fun x34 => again (v.1, v.2.1 + 1, 1) x34) X)) (again (v.1, v.2.1 + (-1), 1) x24))) X)) →
          (wRecv (mS b fi ar) 12 (some b.o) (w_X12_match (some b.o) v.2.1 from_ T (mS b fi ar) (fun v25 x24 => wIf (0 ≤ v25) (wIf ((0 : Int32) = 0) (wGetF x24 12 51 (some b.o) fun v32 => wAstI x24 v32 v.2.1 v25 fun x33 => wRecv x33 12 (some b.o) (w_X12_give (some b.o) v.2.1 v25 x33 (fun x34 => again' (v.1, v.2.1 + 1, 0) x34) X')) (again' (v.1, v.2.1 + (-1), 0) x24)) (wIf ((1 : Int32) = 0) (wGetF x24 12 51 (some b.o) fun v32 => wAstI x24 v32 v.2.1 v25 fun x33 => wRecv x33 12 (some b.o) (w_X12_give (some b.o) v.2.1 v25 x33 (fun x34 => again' (v.1, v.2.1 + 1, 1) x34) X')) (again' (v.1, v.2.1 + (-1), 1) x24))) X')) := by
  have mL : mostL = 50000 := rfl
  have c1 : ((1 : Int32)).toInt = 1 := by decide
  have cm1 : ((-1 : Int32)).toInt = -1 := by decide
  have h10 := hS.2.2.2.2.1
  have hst : st0.length < 10 := by
    have := congrArg List.length u1
    rw [List.length_append, pdG_len, List.length_cons] at this
    omega
  have hG : Ga[st0.length]? = some G := by rw [u1, List.getElem?_append_right (by rw [pdG_len]; exact Nat.le_refl _), pdG_len, Nat.sub_self]; rfl
  obtain ⟨hw, hch2⟩ := KnCh_at (by rw [u1] at hch; exact hch)
  have vp : (v.2.1 + 1).toInt = ((st0.length + 1 : Nat) : Int) := by rw [i_add u2 c1 (by omega)]; omega
  have vm : (v.2.1 + (-1)).toInt = (st0.length : Int) - 1 := by rw [i_add u2 cm1 (by omega)]; omega
  obtain ⟨g10, e45, e4, el, el4, hin⟩ := goal_at hS hV hG (by omega) hw
  have eaf : aftK G = mkKn G.kn G.ag := by unfold aftK; rw [if_pos k0]
  refine q_recv (ns_match hb hS hV u2 hG (by omega) hw u5 q2 q1 hLn hLs (fun r l' ar2 oc hA ⟨t1, t2, t3, t4, t5⟩ hone hsc => ?_))
  have hfr2 : FrSv fi (va_up fi 38 (Int32.ofNat l')) ar ar2 := FrSv_tr FrSv_38 (FrSv_ar (j0 := 52) (by decide) hA)
  have h382 : va_up fi 38 (Int32.ofNat l') 38 = Int32.ofNat l' := va_up_self _ _ _
  have over : mostL < l' → mostL < R.1 := fun y => by
    rw [hRe]
    exact Nat.lt_of_lt_of_le (foldQ_full (fun x s => solA_le Gs0 _ s) q1 (t4 y)) (retQ_le _ _ _)
  have hS2 := SMh_fr hS hfr2
  have he2 : EnvM G.kn env ar2 := by unfold EnvM; rw [hA 50 (by decide)]; exact u5
  have hkp2 : KpM kf s ar2 := by unfold KpM; rw [hA 54 (by decide)]; exact q4
  cases oc with
  | none =>
    have t1 : r.toInt = -1 := t1
    refine qv_if (fun c => ?_) (fun _ => qv_if (fun c => absurd c (by decide)) (fun _ => ?_))
    · rw [i32.2.1, t1, show (0 : Int32).toInt = 0 by decide] at c; omega
    refine ha _ _ _ hfr2 ⟨hS2, ?_⟩
    by_cases hov : mostL < l'
    · exact Or.inl ⟨over hov, l', h382, hov, t3⟩
    · have hsc := hsc (by omega)
      have hle : l' ≤ mostL := by omega
      have hcc : s.2.1 ≤ l' + 1 := by omega
      refine Or.inr ⟨st0, G :: Gs0, (l', s.2), ⟨hle, h382, q3, hkp2, u1, StOk_cg u3 (fun i _ => by rw [hA 51 (by decide)]) (fun p _ j _ _ => by rw [hA 50 (by decide)])⟩, Or.inr ⟨rfl, vm, hcc, ?_⟩⟩
      rw [hRe, foldQ_none q1 (by rw [hsc]), hsc]
  | some p =>
    obtain ⟨x, Rr⟩ := p
    have t1 : r.toInt = (sl x : Int) := t1
    obtain ⟨⟨P1, hP1⟩, hask⟩ := t5 x Rr rfl
    obtain ⟨P2, hP2⟩ := hLs
    have hrow : a.rw G.tb = (P2 ++ P1) ++ x :: Rr := by rw [hP2, hP1, List.append_assoc]
    have hx : x ∈ a.rw G.tb := by rw [hrow]; exact List.mem_append_right _ List.mem_cons_self
    refine qv_if (fun _ => qv_if (fun _ => ?_) (fun c => absurd rfl c)) (fun c => ?_)
    rotate_left
    · rw [i32.2.1, t1, show (0 : Int32).toInt = 0 by decide] at c; omega
    refine n_getF hb (by decide) (nv_astI hb (by decide) (by decide) (fun _ => q_recv ?_))
    rw [ix_of u2]
    have hA3 : ∀ j, j ≠ 51 → up2 ar2 51 st0.length r j = ar2 j := fun j hj => up2_row _ _ _ hj
    have h51 : up2 ar2 51 st0.length r 51 st0.length = r := up2_self _ _ _ _
    have h51' : ∀ i, i ≠ st0.length → up2 ar2 51 st0.length r 51 i = ar2 51 i := fun i hi => up2_k _ _ _ _ hi
    generalize up2 ar2 51 st0.length r = ar3 at hA3 h51 h51' ⊢
    have hfr3 : FrSv fi (va_up fi 38 (Int32.ofNat l')) ar ar3 := FrSv_tr hfr2 (FrSv_ar (j0 := 51) (by decide) hA3)
    have hS3 := SMh_fr hS hfr3
    have he3 : EnvM G.kn env ar3 := by unfold EnvM; rw [hA3 50 (by decide)]; exact he2
    refine ns_give hb hS3 hV u2 hG (by omega) hw hx t1 he3 (hone x Rr rfl) (ask_fitG hV hw (by omega) hask) (fun ar4 hA4 hk4 he4 => ?_)
    have hfr4 : FrSv fi (va_up fi 38 (Int32.ofNat l')) ar ar4 := FrSv_tr hfr3 (FrSv_ar (j0 := 50) (by decide) hA4)
    refine ha _ _ _ hfr4 ⟨SMh_fr hS hfr4, ?_⟩
    by_cases hov : mostL < l'
    · exact Or.inl ⟨over hov, l', h382, hov, t3⟩
    · have hsc := hsc (by omega)
      have hlt := (scanQ_some _ _ hsc).1
      have a51 : ∀ i, i < st0.length → ar4 51 i = ar 51 i := fun i hi => by rw [hA4 51 (by decide), h51' i (Nat.ne_of_lt hi), hA 51 (by decide)]
      have a50 : ∀ j, j < 8 → G.kn j = true → ar4 50 j = ar 50 j := fun j hj hkj => by rw [hk4 j hj hkj, hA3 50 (by decide), hA 50 (by decide)]
      have st4 : StOk a sl ar4 st0 := StOk_cg u3 a51 (fun p hp j hj hkj => a50 j hj (u4 p hp j hkj))
      have env4 : EnvM G.kn env ar4 := fun j hj hkj => (hk4 j hj hkj).trans (he3 j hj hkj)
      have hkp4 : KpM kf s ar4 := by unfold KpM; rw [hA4 54 (by decide), hA3 54 (by decide)]; exact hkp2
      have hle : l' ≤ mostL := by omega
      have hcc : s.2.1 ≤ l' := by omega
      have hga : Ga = pdG ((G, env, Rr) :: st0) ++ Gs0 := by rw [u1, pdG_cons, List.append_assoc]; rfl
      have hst4 : StOk a sl ar4 ((G, env, Rr) :: st0) := ⟨fun _ => ⟨x, by rw [hA4 51 (by decide), h51]; exact t1, P2 ++ P1, hrow⟩, env4, u4, st4⟩
      have hmo : ∀ p, p ∈ (G, env, Rr) :: st0 → ∀ j, p.1.kn j = true → aftK G j = true := fun p hp j hkj => by
        rcases List.mem_cons.mp hp with y | y
        · rw [y] at hkj; exact aftK_mono hkj
        · exact aftK_mono (u4 p y j hkj)
      have hRR : R = retQ a T.toInt ((G, env, Rr) :: st0) Gs0 (solA a T.toInt Gs0 (bindE a env G x) (l', s.2)) := by
        rw [hRe, foldQ_some q1 hsc]
        show _ = retQ a T.toInt st0 (G :: Gs0) (if G.kd = 0 then _ else _)
        rw [if_pos k0]
      exact Or.inr ⟨(G, env, Rr) :: st0, Gs0, (l', s.2), ⟨hle, h382, q3, hkp4, hga, hst4⟩, Or.inl ⟨rfl, vp, hcc, aftK G, bindE a env G x, hch2, by rw [eaf]; exact he4, hmo, hRR⟩⟩
end SZB
