set_option linter.unusedVariables false
set_option linter.unusedSimpArgs false
/-! the reference: solving, another goal -/
section SZC
variable {b : MT} {fi fi' fi'' : Nat → Int32} {ar ar' ar'' : Nat → Nat → Int32} {a : AS} {sl : Nat → Nat} {Ga Gs Gs0 : List QG} {G : QG} {env : Nat → Int32} {kn kf : Nat → Bool} {R s : SQ} {T : Int32} {st st0 : List Pd} {v : Int32 × Int32 × Int32} {X X' : String → HS → Prop} {QI QI' : Int32 → HS → Prop} {again again' : Int32 × Int32 × Int32 → HS → Prop}
theorem ns_solOt (hb : MB b) (hS : SMh a sl Ga fi ar) (hV : AV a) (hch : KnCh a.tn a.co kf Ga (fun _ => false)) (q1 : s.1 ≤ mostL) (q2 : fi 38 = Int32.ofNat s.1) (q3 : v.1.toInt = (s.2.1 : Int)) (q4 : KpM kf s ar) (u1 : Ga = pdG st0 ++ G :: Gs0) (u2 : v.2.1.toInt = (st0.length : Int)) (u3 : StOk a sl ar st0) (u4 : ∀ p, p ∈ st0 → ∀ j, p.1.kn j = true → G.kn j = true) (u5 : EnvM G.kn env ar) (hc : s.2.1 ≤ s.1) (k0 : G.kd ≠ 0) (hRe : R = retQ a T.toInt st0 (G :: Gs0) (solA a T.toInt (G :: Gs0) env s)) (ha : ∀ v' fi' ar', FrSv fi fi' ar ar' → SvI a sl Ga kf R T.toInt v' fi' ar' → again v' (mS b fi' ar') → again' v' (mS b fi' ar')) :
    (wRecv (mS b fi ar) 12 (some b.o) (w_X12_holds (some b.o) v.2.1 T (mS b fi ar) (fun v53 x52 => wIf (v53 = 0) (wIf ((1 : Int32) = 0) (again (v.1, v.2.1 + 1, 1) x52) (again (v.1, v.2.1 + (-1), 1) x52)) (wIf ((0 : Int32) = 0) (again (v.1, v.2.1 + 1, 0) x52) (again (v.1, v.2.1 + (-1), 0) x52))) X)) →
    (wRecv (mS b fi ar) 12 (some b.o) (w_X12_holds (some b.o) v.2.1 T (mS b fi ar) (fun v53 x52 => wIf (v53 = 0) (wIf ((1 : Int32) = 0) (again' (v.1, v.2.1 + 1, 1) x52) (again' (v.1, v.2.1 + (-1), 1) x52)) (wIf ((0 : Int32) = 0) (again' (v.1, v.2.1 + 1, 0) x52) (again' (v.1, v.2.1 + (-1), 0) x52))) X')) := by
  have mL : mostL = 50000 := rfl
  have c1 : ((1 : Int32)).toInt = 1 := by decide
  have cm1 : ((-1 : Int32)).toInt = -1 := by decide
  have h10 := hS.2.2.2.2.1
  have hst : st0.length < 10 := by
    have := congrArg List.length u1
    rw [List.length_append, pdG_len, List.length_cons] at this
    omega
  have hG : Ga[st0.length]? = some G := by rw [u1, List.getElem?_append_right (by rw [pdG_len]; exact Nat.le_refl _), pdG_len, Nat.sub_self]; rfl
  obtain ⟨hw, hch2⟩ := KnCh_at (by rw [u1] at hch; exact hch)
  have vp : (v.2.1 + 1).toInt = ((st0.length + 1 : Nat) : Int) := by rw [i_add u2 c1 (by omega)]; omega
  have vm : (v.2.1 + (-1)).toInt = (st0.length : Int) - 1 := by rw [i_add u2 cm1 (by omega)]; omega
  refine q_recv (ns_holds (Gs := Gs0) hb hS hV u2 hG k0 hw u5 q2 q1 (fun f2 ar2 env' l' hf2 hk2 h51 h54 he2 h382 hle hle2 es => ?_) (fun f2 ar2 l' hf2 hk2 h50 h51 h54 h382 hle hle2 es => ?_) (fun r f2 ar2 l' hf2 h382 hov hov2 ho => ?_))
  · refine qv_if (fun c => absurd c (by decide)) (fun _ => qv_if (fun _ => ?_) (fun c => absurd rfl c))
    have hkp2 : KpM kf s ar2 := by unfold KpM; rw [h54]; exact q4
    have hst2 : StOk a sl ar2 ((G, env, []) :: st0) := ⟨fun y => absurd y k0, fun j hj hkj => (hk2 j hj hkj).trans (u5 j hj hkj), u4, StOk_cg u3 (fun i _ => by rw [h51]) (fun p hp j hj hkj => hk2 j hj (u4 p hp j hkj))⟩
    have hga : Ga = pdG ((G, env, []) :: st0) ++ Gs0 := by rw [u1, pdG_cons, List.append_assoc]; rfl
    have hcc : s.2.1 ≤ l' := by omega
    have hmo : ∀ p, p ∈ ((G, env, []) :: st0 : List Pd) → ∀ j, p.1.kn j = true → aftK G j = true := fun p hp j hkj => by
      rcases List.mem_cons.mp hp with y | y
      · rw [y] at hkj; exact aftK_mono hkj
      · exact aftK_mono (u4 p y j hkj)
    have hRR : R = retQ a T.toInt ((G, env, []) :: st0) Gs0 (solA a T.toInt Gs0 env' (l', s.2)) := by
      rw [hRe, es]
      show _ = retQ a T.toInt st0 (G :: Gs0) (if G.kd = 0 then _ else _)
      rw [if_neg k0]
    exact ha _ _ _ hf2 ⟨SMh_fr hS hf2, Or.inr ⟨(G, env, []) :: st0, Gs0, (l', s.2), ⟨hle2, h382, q3, hkp2, hga, hst2⟩, Or.inl ⟨rfl, vp, hcc, aftK G, env', hch2, he2, hmo, hRR⟩⟩⟩
  · refine qv_if (fun _ => qv_if (fun c => absurd c (by decide)) (fun _ => ?_)) (fun c => absurd rfl c)
    have hkp2 : KpM kf s ar2 := by unfold KpM; rw [h54]; exact q4
    have hcc : s.2.1 ≤ l' + 1 := by omega
    exact ha _ _ _ hf2 ⟨SMh_fr hS hf2, Or.inr ⟨st0, G :: Gs0, (l', s.2), ⟨hle2, h382, q3, hkp2, u1, StOk_cg u3 (fun i _ => by rw [h51]) (fun p hp j hj hkj => hk2 j hj (u4 p hp j hkj))⟩, Or.inr ⟨rfl, vm, hcc, by rw [hRe, es]⟩⟩⟩
  · have inv : OvI R f2 := ⟨by rw [hRe]; exact Nat.lt_of_lt_of_le ho (retQ_le _ _ _), l', h382, hov, hov2⟩
    refine qv_if (fun _ => qv_if (fun c => absurd c (by decide)) (fun _ => ?_)) (fun _ => qv_if (fun _ => ?_) (fun c => absurd rfl c))
    · exact ha _ _ _ hf2 ⟨SMh_fr hS hf2, Or.inl inv⟩
    · exact ha _ _ _ hf2 ⟨SMh_fr hS hf2, Or.inl inv⟩
end SZC
