section ZPURE1
theorem pc_8 {h : HS} (hT : PsT h) : ∃ o, fL_c8 h = some o ∧ zeqv o (hs (hs (hs h 19 1 0) 19 2 0) 30 13 0) := by
  obtain ⟨n, n2, hb⟩ := id hT
  unfold fL_c8 fX5_empty fX3_size fX3_wipe fX6_empty
  rw [if_pos (Or.inl rfl), Option.bind_some, Option.bind_some, Option.bind_some, Option.bind_some]
  have e : hs (hs (hs h 19 1 0) 19 2 0) 30 0 0 30 13 = h 19 1 := by simp [hs_at, n2]
  rw [e, if_pos rfl]
  refine ⟨_, rfl, fun a b h1 h2 => ?_⟩
  simp only [hs_at]
  by_cases ha : a = 30
  · subst ha
    have hb : b ≠ 0 := fun e => h2 ⟨rfl, e⟩
    simp [hb]
  · simp [ha]
/-! kinds -/
abbrev PsK (h : HS) : Prop := (0 ≤ h 1 5 ∧ h 1 5 ≤ 6) ∧ (h 30 1 = h 1 5) ∧ (∀ i : Int, 0 ≤ i → i < h 1 5 → h 31 i = h 2 i ∧ 65 ≤ h 2 i ∧ h 2 i ≤ 90)
theorem PsK.n {h : HS} (w : PsK h) : 0 ≤ h 1 5 ∧ h 1 5 ≤ 6 := w.1
theorem PsK.n2 {h : HS} (w : PsK h) : h 30 1 = h 1 5 := w.2.1
theorem PsK.le {h : HS} (w : PsK h) : ∀ i : Int, 0 ≤ i → i < h 1 5 → h 31 i = h 2 i ∧ 65 ≤ h 2 i ∧ h 2 i ≤ 90 := w.2.2
theorem pKind {x : Int} {h h6 : HS} (hn : 0 ≤ h 1 5 ∧ h 1 5 ≤ 6) (hn2 : h6 30 1 = h 1 5) (hl : ∀ i : Int, 0 ≤ i → i < h 1 5 → h6 31 i = h 2 i) : ∀ (nf : Nat) (j : Int), 0 ≤ j → j ≤ h 1 5 → h 1 5 - j < nf → ∃ r, fX1_withLetter_L2 nf x j h = some r ∧ fX6_kindOf_L2 nf x j h6 = some r ∧ -1 ≤ r ∧ r < h 1 5
  | 0, j, h0, h1, h2 => by omega
  | nf + 1, j, h0, h1, h2 => by
    unfold fX1_withLetter_L2 fX6_kindOf_L2
    rw [hn2, wr_of (z := h 1 5) (by omega) (by omega), wr_of (z := j) (by omega) (by omega)]
    by_cases hj : h 1 5 ≤ j
    · rw [if_pos hj, if_pos hj]
      exact ⟨-1, rfl, rfl, by omega, by omega⟩
    · have hc : 0 ≤ j ∧ j < 6 := ⟨h0, by omega⟩
      rw [if_neg hj, if_neg hj, if_pos hc, if_pos hc, hl j h0 (by omega)]
      by_cases hx : wr (h 2 j) = wr x
      · rw [if_pos hx, if_pos hx]
        exact ⟨j, rfl, rfl, by omega, by omega⟩
      · rw [if_neg hx, if_neg hx]
        exact pKind hn hn2 hl nf (j + 1) (by omega) (by omega) (by omega)
/-- nodes, as far as others need them -/
abbrev PsN0 (h : HS) : Prop := (1 ≤ h 9 8 ∧ h 9 8 ≤ 200) ∧ (h 30 8 = h 9 8)
theorem PsN0.n {h : HS} (w : PsN0 h) : 1 ≤ h 9 8 ∧ h 9 8 ≤ 200 := w.1
theorem PsN0.n2 {h : HS} (w : PsN0 h) : h 30 8 = h 9 8 := w.2
def nKind (p : Int) (h : HS) : HS := hs (hs (hs (hs h 2 (h 1 5) p) 1 5 (h 1 5 + 1)) 31 (h 1 5) p) 30 1 (h 1 5 + 1)
theorem pc_0 {p : Int} {h : HS} (hp : zr p) (hK : PsK h) (hN : PsN0 h) : ∃ o, fL_c0 p h = some o ∧ (zeqv o h ∨ (h 1 5 < 6 ∧ 65 ≤ p ∧ p ≤ 90 ∧ zeqv o (nKind p h))) := by
  have eg : fL_c0 p h = gC (fL_addKind p h) (fX6_addKind p) := rfl
  obtain ⟨n, n2, hl⟩ := id hK
  obtain ⟨m, m2⟩ := id hN
  rw [eg]
  -- the reference, at any state that is the same for it
  have e6 : ∀ h6 : HS, (h6 30 1 = h 30 1) → (∀ i : Int, h6 31 i = h 31 i) → h6 30 8 = h 30 8 → ∀ r : Int, fX1_withLetter_L2 zF p 0 h = some r → fX6_addKind p h6 = if 65 ≤ p ∧ p ≤ 90 then (if r = -1 then (if h 1 5 = 6 then some (0, hs (hs h6 30 0 0) 30 0 2) else if h 9 8 ≤ 1 then some (h 1 5, hs (hs (hs h6 30 0 0) 31 (h 1 5) p) 30 1 (h 1 5 + 1)) else some (0, hs (hs h6 30 0 0) 30 0 2)) else some (0, hs (hs h6 30 0 0) 30 0 1)) else some (0, hs (hs h6 30 0 0) 30 0 1) := by
    intro h6 a1 a2 a3 r hr
    have z1 : hs h6 30 0 0 30 1 = h 1 5 := by simp [hs_at, a1, n2]
    have z8 : hs h6 30 0 0 30 8 = h 9 8 := by simp [hs_at, a3, m2]
    have z2 : hs (hs h6 30 0 0) 31 (h 1 5) p 30 1 = h 1 5 := by simp [hs_at, a1, n2]
    have z3 : hs (hs (hs h6 30 0 0) 31 (h 1 5) p) 30 1 (h 1 5 + 1) 30 1 = h 1 5 + 1 := by simp [hs_at]
    unfold fX6_addKind fX6_addKind_b25 fX6_addKind_b48 fX6_fail fX6_kindOf
    rw [pX6_isIn hp (by unfold zr; omega) (by unfold zr; omega), Option.bind_some]
    by_cases h1 : 65 ≤ p ∧ p ≤ 90
    · rw [if_pos h1, if_pos h1, if_neg (show ¬ wr 1 = 0 by decide)]
      obtain ⟨r2, q1, q2, q3, q4⟩ := pKind (x := p) (h6 := hs h6 30 0 0) n z1 (fun i i0 i1 => by rw [show hs h6 30 0 0 31 i = h6 31 i by simp [hs_at], a2, (hl i i0 i1).1]) zF 0 (by omega) (by omega) (by unfold zF; omega)
      rw [hr] at q1
      obtain rfl := Option.some.inj q1
      rw [q2, Option.bind_some, wr_of (z := r) (by omega) (by omega)]
      by_cases h2 : r = -1
      · rw [if_pos h2, if_pos h2, z1, z8, wr_of (z := h 1 5) (by omega) (by omega), wr_of (z := h 9 8) (by omega) (by omega)]
        by_cases h3 : h 1 5 = 6
        · rw [if_pos h3, if_pos h3]
          rfl
        · rw [if_neg h3, if_neg h3]
          by_cases h4 : h 9 8 ≤ 1
          · rw [if_pos h4, if_pos h4, if_pos (by omega), z2, z3, Int.add_sub_cancel]
          · rw [if_neg h4, if_neg h4]
            rfl
      · rw [if_neg h2, if_neg h2]
        rfl
    · rw [if_neg h1, if_neg h1, if_pos wr_0]
      rfl
  obtain ⟨r, q1, -, q3, q4⟩ := pKind (x := p) (h6 := h) n n2 (fun i i0 i1 => (hl i i0 i1).1) zF 0 (by omega) (by omega) (by unfold zF; omega)
  have e7 := e6 h rfl (fun _ => rfl) rfl r q1
  unfold fL_addKind fX5_addKind fX5_addKind_b24 fX5_addKind_b57 fX1_withLetter fX1_size fX4_size fX1_include
  rw [wr_of hp.1 hp.2]
  by_cases h1 : 65 ≤ p ∧ p ≤ 90
  · rw [if_neg (by omega), if_neg (by omega), q1, Option.bind_some, wr_of (z := r) (by omega) (by omega)]
    rw [if_pos h1] at e7
    by_cases h2 : r = -1
    · rw [if_pos h2, Option.bind_some, wr_of (z := h 1 5) (by omega) (by omega)]
      rw [if_pos h2] at e7
      by_cases h3 : h 1 5 = 6
      · rw [if_pos (by omega), Option.bind_some, if_neg (show ¬ (3 : Int) = 0 by decide), if_neg (show ¬ (3 : Int) = 2 by decide), if_pos rfl]
        rw [if_pos h3] at e7
        exact ⟨_, gC_thr e7 ⟨by unfold zr; omega, by decide⟩ (by simp [hs_at]), Or.inl ((zeqv.rf.h30 _).h30 _)⟩
      · rw [if_neg (by omega), Option.bind_some, wr_of (z := h 9 8) (by omega) (by omega)]
        rw [if_neg h3] at e7
        by_cases h4 : h 9 8 ≤ 1
        · have z1 : hs h 2 (h 1 5) p 1 5 = h 1 5 := by simp [hs_at]
          have z2 : hs (hs h 2 (h 1 5) p) 1 5 (h 1 5 + 1) 1 5 = h 1 5 + 1 := by simp [hs_at]
          rw [if_pos h4, if_pos (by omega), if_pos (by omega), Option.bind_some, Option.bind_some, if_pos rfl]
          rw [z1, z2, Int.add_sub_cancel]
          have ek := e6 (hs (hs (hs h 2 (h 1 5) p) 1 5 (h 1 5 + 1)) 50 0 (wr (h 1 5))) (by simp [hs_at]) (fun i => by simp [hs_at]) (by simp [hs_at]) r q1
          rw [if_pos h1, if_pos h2, if_neg h3, if_pos h4] at ek
          refine ⟨_, gC_ok ek (by show zr (h 1 5); unfold zr; omega) rfl ?_ ?_, Or.inr ⟨by omega, h1.1, h1.2, ?_⟩⟩
          · simp [hs_at]
          · simp [hs_at]
          · intro a b g1 g2
            unfold nKind
            simp only [hs_at]
            by_cases ha : a = 30
            · subst ha
              have hb : b ≠ 0 := fun e => g2 ⟨rfl, e⟩
              simp [hb]
            · simp [ha, g1]
        · rw [if_neg h4, Option.bind_some, if_neg (show ¬ (3 : Int) = 0 by decide), if_neg (show ¬ (3 : Int) = 2 by decide), if_pos rfl]
          rw [if_neg h4] at e7
          exact ⟨_, gC_thr e7 ⟨by unfold zr; omega, by decide⟩ (by simp [hs_at]), Or.inl ((zeqv.rf.h30 _).h30 _)⟩
    · rw [if_neg h2, Option.bind_some, if_neg (show ¬ (2 : Int) = 0 by decide), if_pos rfl]
      rw [if_neg h2] at e7
      exact ⟨_, gC_thr e7 ⟨by unfold zr; omega, by decide⟩ (by simp [hs_at]), Or.inl ((zeqv.rf.h30 _).h30 _)⟩
  · rw [if_neg h1] at e7
    have hc : (if p < 65 then some ((2, 0, h) : Int × Int × HS) else if 90 < p then some (2, 0, h) else (fX1_withLetter_L2 zF p 0 h).bind fun r1 => if wr r1 = -1 then (some (h 1 5)).bind fun r2 => if 6 ≤ wr r2 then some (3, 0, h) else (some (h 9 8)).bind fun r3 => if wr r3 ≤ 1 then (if wr (h 1 5) < 6 then if 0 ≤ h 1 5 ∧ h 1 5 < 6 then some (hs (hs h 2 (h 1 5) p) 1 5 (hs h 2 (h 1 5) p 1 5 + 1) 1 5 - 1, hs (hs h 2 (h 1 5) p) 1 5 (hs h 2 (h 1 5) p 1 5 + 1)) else none else some (-1, h)).bind fun r4 => some (0, r4.1, r4.2) else some (3, 0, h) else some (2, 0, h)) = some (2, 0, h) := by
      by_cases g : p < 65
      · rw [if_pos g]
      · rw [if_neg g, if_pos (by omega)]
    rw [hc, Option.bind_some, if_neg (show ¬ (2 : Int) = 0 by decide), if_pos rfl]
    exact ⟨_, gC_thr e7 ⟨by unfold zr; omega, by decide⟩ (by simp [hs_at]), Or.inl ((zeqv.rf.h30 _).h30 _)⟩
end ZPURE1
