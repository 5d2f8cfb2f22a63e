section ZPSTEP
/-! one step keeps the invariant -/
theorem ifx {c : Prop} [Decidable c] {a b : Option HS} (ha : ∃ o, a = some o ∧ Psi o) (hb : ∃ o, b = some o ∧ Psi o) : ∃ o, (if c then a else b) = some o ∧ Psi o := by
  by_cases e : c
  · rw [if_pos e]
    exact ha
  · rw [if_neg e]
    exact hb
theorem pStep {xs : Nat → Int32} (i : Int) (h : HS) (w : Psi h) : ∃ o, fL_step xs i h = some o ∧ Psi o := by
  have r := fun k => zxs_r xs k
  unfold fL_step
  refine ifx (qc_0 (r _) w) ?_
  refine ifx (qc_1 (r _) (r _) (r _) (r _) w) ?_
  refine ifx (qc_2 (r _) (r _) (r _) w) ?_
  refine ifx (qc_3 (r _) w) ?_
  refine ifx (qc_4 (r _) w) ?_
  refine ifx (qc_5 (r _) (r _) w) ?_
  refine ifx (qc_6 (r _) (r _) w) ?_
  refine ifx (qc_7 (r _) (r _) (r _) (r _) w) ?_
  refine ifx (qc_8  w) ?_
  refine ifx (qc_9  w) ?_
  refine ifx (qc_10 (r _) w) ?_
  refine ifx (qc_11 (r _) (r _) w) ?_
  refine ifx (qc_12 (r _) w) ?_
  refine ifx (qc_13 (r _) (r _) w) ?_
  refine ifx (qc_14 (r _) (r _) w) ?_
  refine ifx (qc_15 (r _) w) ?_
  refine ifx (qc_16 (r _) w) ?_
  refine ifx (qc_17  w) ?_
  refine ifx (qc_18  w) ?_
  refine ifx (qc_19  w) ?_
  refine ifx (qc_20  w) ?_
  refine ifx (qc_21  w) ?_
  exact ⟨h, rfl, w⟩
end ZPSTEP
