set_option linter.unusedVariables false
set_option linter.unusedSimpArgs false
/-! the class: what an argument is worth -/
section SQ1
variable {b : CT} {I : Nat → Nat → Int32} {F : Nat → Nat → Option Nat} {A : Nat → Nat → Nat → Int32} {E : Nat → Nat → Nat → Option Nat} {v q k : Nat} {env : Nat → Int32} {x : QA} {X X' : String → HS → Prop} {QI QI' : Int32 → HS → Prop}
theorem qs_value {w : Int32} (hw : w.toInt = (k : Int)) (hb : CB b) (hv : Is b 8 v) (hq : Is b 2 q) (h0 : A q 0 k = if x.1 = 1 then 1 else 0) (h1 : A q 1 k = x.2) (he : x.1 = 1 → A v 4 (ix x.2) = env (ix x.2)) (h : QI (worA env x) (cS b I F A E) → QI' (worA env x) (cS b I F A E)) : w_X8_valueOf (some v) (some q) w (cS b I F A E) QI X → w_X8_valueOf (some v) (some q) w (cS b I F A E) QI' X' := by
  unfold w_X8_valueOf
  refine qc_getA hb (by decide) (fun _ => ?_)
  refine qc_ald hb hq (by decide) (by decide) (fun _ => ?_)
  rw [ix_of hw, h0]
  dsimp only [wJoin]
  unfold worA at h
  by_cases e : x.1 = 1
  · rw [if_pos e] at h ⊢
    refine qv_if (fun _ => ?_) (fun z => absurd rfl z)
    refine qc_getA hb (by decide) (fun _ => ?_)
    refine qc_getA hb (by decide) (fun _ => ?_)
    refine qc_ald hb hq (by decide) (by decide) (fun _ => ?_)
    rw [ix_of hw, h1]
    refine qc_ald hb hv (by decide) (by decide) (fun _ => ?_)
    rw [he e]; exact h
  · rw [if_neg e] at h ⊢
    refine qv_if (fun z => absurd z (by decide)) (fun _ => ?_)
    refine qc_getA hb (by decide) (fun _ => ?_)
    refine qc_ald hb hq (by decide) (by decide) (fun _ => ?_)
    rw [ix_of hw, h1]; exact h
end SQ1
