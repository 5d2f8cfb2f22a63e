section ZPLOOP
/-- the loop out of one step, whatever the invariant is -/
theorem pLoop_of {xs : Nat → Int32} {L : Int} (Psi : HS → Prop) (hstep : ∀ (i : Int) (h : HS), Psi h → ∃ o, fL_step xs i h = some o ∧ Psi o) : ∀ (f : Nat) (i : Int) (h : HS), Psi h → L - 5 * ((f : Int) + 1) < i → ∃ o, fL_loop xs L (f + 1) i h = some o
  | 0, i, h, hP, hi => by
    unfold fL_loop
    exact ⟨h, if_pos (by omega)⟩
  | f + 1, i, h, hP, hi => by
    unfold fL_loop
    by_cases hl : L - 5 < i
    · exact ⟨h, if_pos hl⟩
    · rw [if_neg hl]
      obtain ⟨o, e1, hP1⟩ := hstep i h hP
      rw [e1, Option.bind_some]
      exact pLoop_of Psi hstep f (i + 5) o hP1 (by omega)
theorem pMain_of {xs : Nat → Int32} {L : Nat} (hL : L ≤ 2560) (Psi : HS → Prop) (hnew : ∀ h, PsNew h → Psi h) (hstep : ∀ (i : Int) (h : HS), Psi h → ∃ o, fL_step xs i h = some o ∧ Psi o) : ∃ o, fL_start xs (L : Int) = some o := by
  obtain ⟨h1, h2, e1, e2, hn⟩ := pStart
  unfold fL_start
  rw [e1, Option.bind_some, e2, Option.bind_some]
  exact pLoop_of Psi hstep 512 0 _ (hnew _ hn) (by show (L : Int) - 5 * (((512 : Nat) : Int) + 1) < 0; omega)
end ZPLOOP
