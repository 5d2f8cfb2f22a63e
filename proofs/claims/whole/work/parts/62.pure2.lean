section ZPURE2
/-! steps of kinds -/
abbrev PsS (h : HS) : Prop := (∀ i : Int, 0 ≤ i → i < 6 → h 32 i = h 3 i ∧ 0 ≤ h 3 i ∧ h 3 i ≤ 8) ∧ (∀ i j : Int, 0 ≤ i → i < 6 → 0 ≤ j → j < h 3 i → h 33 (3 * (8 * i + j)) = h 4 (i * 8 + j) ∧ h 33 (3 * (8 * i + j) + 1) = h 5 (i * 8 + j) ∧ h 33 (3 * (8 * i + j) + 2) = h 6 (i * 8 + j) ∧ (-3 ≤ h 4 (i * 8 + j) ∧ h 4 (i * 8 + j) ≤ 3) ∧ (-3 ≤ h 5 (i * 8 + j) ∧ h 5 (i * 8 + j) ≤ 3) ∧ ¬ (h 4 (i * 8 + j) = 0 ∧ h 5 (i * 8 + j) = 0) ∧ 1 ≤ h 6 (i * 8 + j) ∧ h 6 (i * 8 + j) ≤ 7)
theorem PsS.c {h : HS} (w : PsS h) : ∀ i : Int, 0 ≤ i → i < 6 → h 32 i = h 3 i ∧ 0 ≤ h 3 i ∧ h 3 i ≤ 8 := w.1
theorem PsS.s {h : HS} (w : PsS h) : ∀ i j : Int, 0 ≤ i → i < 6 → 0 ≤ j → j < h 3 i → h 33 (3 * (8 * i + j)) = h 4 (i * 8 + j) ∧ h 33 (3 * (8 * i + j) + 1) = h 5 (i * 8 + j) ∧ h 33 (3 * (8 * i + j) + 2) = h 6 (i * 8 + j) ∧ (-3 ≤ h 4 (i * 8 + j) ∧ h 4 (i * 8 + j) ≤ 3) ∧ (-3 ≤ h 5 (i * 8 + j) ∧ h 5 (i * 8 + j) ≤ 3) ∧ ¬ (h 4 (i * 8 + j) = 0 ∧ h 5 (i * 8 + j) = 0) ∧ 1 ≤ h 6 (i * 8 + j) ∧ h 6 (i * 8 + j) ≤ 7 := w.2
abbrev sStep (x y : Int) : Prop := (-3 ≤ x ∧ x ≤ 3) ∧ (-3 ≤ y ∧ y ≤ 3) ∧ ¬ (x = 0 ∧ y = 0)
theorem pX1_has {p : Int} {h : HS} (hp : zr p) (hn : 0 ≤ h 1 5 ∧ h 1 5 ≤ 6) : fX1_has p h = some (if 0 ≤ p ∧ p < h 1 5 then 1 else 0) := by
  unfold fX1_has
  rw [wr_of hp.1 hp.2, wr_of (z := h 1 5) (by omega) (by omega)]
  by_cases h1 : p < 0
  · rw [if_pos h1, if_neg (by omega)]
  · rw [if_neg h1]
    by_cases h2 : h 1 5 ≤ p
    · rw [if_pos h2, if_neg (by omega)]
    · rw [if_neg h2, if_pos (by omega)]
theorem pX5_isStep {x y : Int} {h : HS} (hx : zr x) (hy : zr y) : fX5_isStep x y h = some (if sStep x y then 1 else 0) := by
  unfold fX5_isStep
  rw [wr_of hx.1 hx.2, wr_of hy.1 hy.2]
  by_cases h1 : x < -3
  · rw [if_pos h1, if_neg (by omega)]
  rw [if_neg h1]
  by_cases h2 : 3 < x
  · rw [if_pos h2, if_neg (by omega)]
  rw [if_neg h2]
  by_cases h3 : y < -3
  · rw [if_pos h3, if_neg (by omega)]
  rw [if_neg h3]
  by_cases h4 : 3 < y
  · rw [if_pos h4, if_neg (by omega)]
  rw [if_neg h4]
  by_cases h5 : x = 0
  · rw [if_pos h5]
    by_cases h6 : y = 0
    · rw [if_pos h6, if_neg (by omega)]
    · rw [if_neg h6, if_pos (by omega)]
  · rw [if_neg h5, if_pos (by omega)]
def nStep (p x y r : Int) (h : HS) : HS := hs (hs (hs (hs h 4 (p * 8 + h 3 p) x) 5 (p * 8 + h 3 p) y) 6 (p * 8 + h 3 p) r) 3 p (h 3 p + 1)
def nStep6 (p x y r : Int) (h : HS) : HS := hs (hs (hs (hs h 33 (3 * (8 * p + h 32 p)) x) 33 (3 * (8 * p + h 32 p) + 1) y) 33 (3 * (8 * p + h 32 p) + 2) r) 32 p (h 32 p + 1)
theorem pX5_addStep {p x y r : Int} {h : HS} (hp : zr p) (hx : zr x) (hy : zr y) (hr : zr r) (hn : 0 ≤ h 1 5 ∧ h 1 5 ≤ 6) (hS : PsS h) (hN : PsN0 h) : fX5_addStep p x y r h = if 0 ≤ p ∧ p < h 1 5 then (if sStep x y ∧ 1 ≤ r ∧ r ≤ 7 then (if h 3 p < 8 ∧ h 9 8 ≤ 1 then some (0, h 3 p + 1, nStep p x y r h) else some (3, 0, h)) else some (2, 0, h)) else some (1, 0, h) := by
  obtain ⟨m, m2⟩ := id hN
  unfold fX5_addStep fX5_addStep_b42 fX5_addStep_b76 fX1_stepCount fX4_size fX1_includeStep
  rw [pX1_has hp hn, pX5_isStep hx hy, wr_of hr.1 hr.2, Option.bind_some, Option.bind_some]
  by_cases h1 : 0 ≤ p ∧ p < h 1 5
  · obtain ⟨c1, c2, c3⟩ := hS.c p h1.1 (by omega)
    have hp6 : 0 ≤ p ∧ p < 6 := ⟨h1.1, by omega⟩
    rw [if_pos h1, if_pos h1, if_neg (show ¬ wr 1 = 0 by decide), if_pos hp6]
    by_cases h2 : sStep x y
    · rw [if_pos h2, if_neg (show ¬ wr 1 = 0 by decide)]
      by_cases h3 : r < 1
      · rw [if_pos h3, if_neg (by omega)]
      · rw [if_neg h3]
        by_cases h4 : r ≤ 7
        · rw [if_pos h4, if_pos (show sStep x y ∧ 1 ≤ r ∧ r ≤ 7 from ⟨h2, by omega, h4⟩), Option.bind_some, if_neg (show ¬ wr 1 = 0 by decide), Option.bind_some, wr_of (z := h 3 p) (by omega) (by omega)]
          by_cases h5 : 8 ≤ h 3 p
          · rw [if_pos h5, if_neg (by omega)]
          · rw [if_neg h5, Option.bind_some, wr_of (z := h 9 8) (by omega) (by omega)]
            by_cases h6 : h 9 8 ≤ 1
            · have hk : 0 ≤ p * 8 + h 3 p ∧ p * 8 + h 3 p < 48 := by omega
              have h8 : h 3 p < 8 := by omega
              rw [if_pos h6, if_pos (show h 3 p < 8 ∧ h 9 8 ≤ 1 from ⟨h8, h6⟩)]
              simp only [Option.bind_some, if_neg (show ¬ wr 1 = 0 by decide), if_pos hp6, if_pos h8, if_pos hk]
              unfold nStep
              simp [hs_at]
            · rw [if_neg h6, if_neg (by omega)]
        · rw [if_neg h4, if_neg (by omega)]
    · rw [if_neg h2, if_pos wr_0, if_neg (fun e => h2 e.1)]
  · rw [if_neg h1, if_neg h1, if_pos wr_0]
theorem pX6_addStep {p x y r : Int} {h : HS} (hp : zr p) (hx : zr x) (hy : zr y) (hr : zr r) (hn : 0 ≤ h 30 1 ∧ h 30 1 ≤ 6) (hS : ∀ i : Int, 0 ≤ i → i < 6 → 0 ≤ h 32 i ∧ h 32 i ≤ 8) (hN : 1 ≤ h 30 8 ∧ h 30 8 ≤ 200) : fX6_addStep p x y r h = if 0 ≤ p ∧ p < h 30 1 then (if sStep x y ∧ 1 ≤ r ∧ r ≤ 7 then (if h 32 p < 8 ∧ h 30 8 ≤ 1 then some (h 32 p + 1, nStep6 p x y r (hs h 30 0 0)) else some (0, hs (hs h 30 0 0) 30 0 3)) else some (0, hs (hs h 30 0 0) 30 0 2)) else some (0, hs (hs h 30 0 0) 30 0 1) := by
  have z1 : hs h 30 0 0 30 1 = h 30 1 := by simp [hs_at]
  have z8 : hs h 30 0 0 30 8 = h 30 8 := by simp [hs_at]
  have z32 : ∀ i, hs h 30 0 0 32 i = h 32 i := fun i => by simp [hs_at]
  unfold fX6_addStep fX6_addStep_b64 fX6_addStep_b53 fX6_addStep_b89 fX6_addStep_b64 fX6_fail
  rw [z1, z8, pX6_isIn hp (by unfold zr; omega) (by unfold zr; omega), pX6_isIn hx (by unfold zr; omega) (by unfold zr; omega), pX6_isIn hy (by unfold zr; omega) (by unfold zr; omega), pX6_isIn hr (by unfold zr; omega) (by unfold zr; omega), z32, wr_of hx.1 hx.2, wr_of hy.1 hy.2, wr_of (z := h 30 8) (by omega) (by omega)]
  simp only [Option.bind_some]
  by_cases h1 : 0 ≤ p ∧ p < h 30 1
  · obtain ⟨c2, c3⟩ := hS p h1.1 (by omega)
    have hp6 : 0 ≤ p ∧ p < 6 := ⟨h1.1, by omega⟩
    rw [if_pos h1, if_pos (show 0 ≤ p ∧ p ≤ h 30 1 - 1 by omega), if_neg (show ¬ wr 1 = 0 by decide), wr_of (z := h 32 p) (by omega) (by omega)]
    have hb : (if wr (if 1 ≤ r ∧ r ≤ 7 then 1 else 0) = 0 then some ((0, hs (hs h 30 0 0) 30 0 2) : Int × HS) else if 0 ≤ p ∧ p < 6 then if h 32 p = 8 then some (0, hs (hs h 30 0 0) 30 0 3) else if h 30 8 ≤ 1 then some (h 32 p + 1, nStep6 p x y r (hs h 30 0 0)) else some (0, hs (hs h 30 0 0) 30 0 3) else none) = if 1 ≤ r ∧ r ≤ 7 then (if h 32 p < 8 ∧ h 30 8 ≤ 1 then some (h 32 p + 1, nStep6 p x y r (hs h 30 0 0)) else some (0, hs (hs h 30 0 0) 30 0 3)) else some (0, hs (hs h 30 0 0) 30 0 2) := by
      by_cases h3 : 1 ≤ r ∧ r ≤ 7
      · rw [if_pos h3, if_neg (show ¬ wr 1 = 0 by decide), if_pos hp6, if_pos h3]
        by_cases h4 : h 32 p = 8
        · rw [if_pos h4, if_neg (by omega)]
        · rw [if_neg h4]
          by_cases h5 : h 30 8 ≤ 1
          · rw [if_pos h5, if_pos ⟨by omega, h5⟩]
          · rw [if_neg h5, if_neg (by omega)]
      · rw [if_neg h3, if_neg h3, if_pos wr_0]
    have hs2 : hs (hs (hs (hs (hs h 30 0 0) 33 (3 * (8 * p + h 32 p)) x) 33 (3 * (8 * p + h 32 p) + 1) y) 33 (3 * (8 * p + h 32 p) + 2) r) 32 p (hs (hs (hs (hs h 30 0 0) 33 (3 * (8 * p + h 32 p)) x) 33 (3 * (8 * p + h 32 p) + 1) y) 33 (3 * (8 * p + h 32 p) + 2) r 32 p + 1) = nStep6 p x y r (hs h 30 0 0) := by
      unfold nStep6
      simp [hs_at]
    have hs3 : nStep6 p x y r (hs h 30 0 0) 32 p = h 32 p + 1 := by
      unfold nStep6
      simp [hs_at]
    have hk : 0 ≤ 3 * (8 * p + h 32 p) ∧ 3 * (8 * p + h 32 p) + 2 < 144 ∨ h 32 p = 8 := by omega
    have hb2 : (if wr (if 1 ≤ r ∧ r ≤ 7 then 1 else 0) = 0 then some ((0, hs (hs h 30 0 0) 30 0 2) : Int × HS) else if 0 ≤ p ∧ p < 6 then if h 32 p = 8 then some (0, hs (hs h 30 0 0) 30 0 3) else if h 30 8 ≤ 1 then if 0 ≤ p ∧ p < 6 then if 0 ≤ 3 * (8 * p + h 32 p) ∧ 3 * (8 * p + h 32 p) < 144 then if 0 ≤ 3 * (8 * p + h 32 p) + 1 ∧ 3 * (8 * p + h 32 p) + 1 < 144 then if 0 ≤ 3 * (8 * p + h 32 p) + 2 ∧ 3 * (8 * p + h 32 p) + 2 < 144 then if 0 ≤ p ∧ p < 6 then if 0 ≤ p ∧ p < 6 then if 0 ≤ p ∧ p < 6 then some (h 32 p + 1, nStep6 p x y r (hs h 30 0 0)) else none else none else none else none else none else none else none else some (0, hs (hs h 30 0 0) 30 0 3) else none) = if 1 ≤ r ∧ r ≤ 7 then (if h 32 p < 8 ∧ h 30 8 ≤ 1 then some (h 32 p + 1, nStep6 p x y r (hs h 30 0 0)) else some (0, hs (hs h 30 0 0) 30 0 3)) else some (0, hs (hs h 30 0 0) 30 0 2) := by
      rw [← hb]
      by_cases h4 : h 32 p = 8
      · simp only [if_pos h4]
      · have hk1 : 0 ≤ 3 * (8 * p + h 32 p) ∧ 3 * (8 * p + h 32 p) < 144 := by omega
        have hk2 : 0 ≤ 3 * (8 * p + h 32 p) + 1 ∧ 3 * (8 * p + h 32 p) + 1 < 144 := by omega
        have hk3 : 0 ≤ 3 * (8 * p + h 32 p) + 2 ∧ 3 * (8 * p + h 32 p) + 2 < 144 := by omega
        simp only [if_neg h4, if_pos hk1, if_pos hk2, if_pos hk3, if_pos hp6]
    rw [hs2, hs3]
    by_cases hx1 : -3 ≤ x ∧ x ≤ 3
    · rw [if_pos hx1, if_neg (show ¬ wr 1 = 0 by decide)]
      by_cases hy1 : -3 ≤ y ∧ y ≤ 3
      · rw [if_pos hy1, if_neg (show ¬ wr 1 = 0 by decide)]
        by_cases h0 : x = 0 ∧ y = 0
        · rw [if_pos h0.1, if_pos h0.2, if_neg (fun e => e.1.2.2 h0)]
        · have e1 : (if sStep x y ∧ 1 ≤ r ∧ r ≤ 7 then (if h 32 p < 8 ∧ h 30 8 ≤ 1 then some (h 32 p + 1, nStep6 p x y r (hs h 30 0 0)) else some (0, hs (hs h 30 0 0) 30 0 3)) else some (0, hs (hs h 30 0 0) 30 0 2)) = if 1 ≤ r ∧ r ≤ 7 then (if h 32 p < 8 ∧ h 30 8 ≤ 1 then some (h 32 p + 1, nStep6 p x y r (hs h 30 0 0)) else some (0, hs (hs h 30 0 0) 30 0 3)) else some (0, hs (hs h 30 0 0) 30 0 2) := by
            by_cases h3 : 1 ≤ r ∧ r ≤ 7
            · rw [if_pos h3, if_pos ⟨⟨hx1, hy1, h0⟩, h3⟩]
            · rw [if_neg h3, if_neg (fun e => h3 e.2)]
          rw [e1, ← hb2]
          by_cases h5 : x = 0
          · rw [if_pos h5, if_neg (fun e => h0 ⟨h5, e⟩)]
          · rw [if_neg h5]
      · rw [if_neg hy1, if_pos wr_0, if_neg (fun e => hy1 e.1.2.1)]
    · rw [if_neg hx1, if_pos wr_0, if_neg (fun e => hx1 e.1.1)]
  · rw [if_neg h1, if_neg (show ¬ (0 ≤ p ∧ p ≤ h 30 1 - 1) by omega), if_pos wr_0]
theorem pc_1 {p x y r : Int} {h : HS} (hp : zr p) (hx : zr x) (hy : zr y) (hr : zr r) (hn : 0 ≤ h 1 5 ∧ h 1 5 ≤ 6) (hn2 : h 30 1 = h 1 5) (hS : PsS h) (hN : PsN0 h) : ∃ o, fL_c1 p x y r h = some o ∧ (zeqv o h ∨ ((0 ≤ p ∧ p < h 1 5) ∧ (sStep x y ∧ 1 ≤ r ∧ r ≤ 7) ∧ h 3 p < 8 ∧ zeqv o (nStep6 p x y r (nStep p x y r h)))) := by
  have eg : fL_c1 p x y r h = gC (fL_addStep p x y r h) (fX6_addStep p x y r) := rfl
  obtain ⟨m, m2⟩ := id hN
  have e7 := pX6_addStep (h := h) hp hx hy hr (by omega) (fun i i0 i1 => by obtain ⟨c1, c2, c3⟩ := hS.c i i0 i1; omega) (by omega)
  rw [hn2] at e7
  rw [eg]
  unfold fL_addStep
  rw [pX5_addStep hp hx hy hr hn hS hN]
  by_cases h1 : 0 ≤ p ∧ p < h 1 5
  · obtain ⟨c1, c2, c3⟩ := hS.c p h1.1 (by omega)
    rw [if_pos h1] at e7 ⊢
    by_cases h2 : sStep x y ∧ 1 ≤ r ∧ r ≤ 7
    · rw [if_pos h2] at e7 ⊢
      by_cases h3 : h 3 p < 8 ∧ h 9 8 ≤ 1
      · rw [if_pos h3, Option.bind_some, if_pos rfl]
        have ek := pX6_addStep (h := hs (nStep p x y r h) 50 0 (wr (h 3 p + 1))) hp hx hy hr (by unfold nStep; simp [hs_at]; omega) (fun i i0 i1 => by obtain ⟨c1, c2, c3⟩ := hS.c i i0 i1; unfold nStep; simp [hs_at]; omega) (by unfold nStep; simp [hs_at]; omega)
        rw [if_pos (by unfold nStep; simp [hs_at]; omega), if_pos h2, if_pos (by unfold nStep; simp [hs_at]; omega)] at ek
        refine ⟨_, gC_ok ek (by show zr (h 3 p + 1); unfold zr; omega) ?_ ?_ ?_, Or.inr ⟨h1, h2, h3.1, ?_⟩⟩
        · unfold nStep; simp [hs_at]; omega
        · unfold nStep6; simp [hs_at]
        · unfold nStep6; simp [hs_at]
        · intro a b g1 g2
          unfold nStep6 nStep
          simp only [hs_at]
          by_cases ha : a = 30
          · subst ha
            have hb : b ≠ 0 := fun e => g2 ⟨rfl, e⟩
            simp [hb]
          · simp [ha, g1]
      · rw [if_neg h3, Option.bind_some, if_neg (show ¬ (3 : Int) = 0 by decide), if_neg (show ¬ (3 : Int) = 1 by decide), if_neg (show ¬ (3 : Int) = 2 by decide), if_pos rfl]
        rw [if_neg (by omega)] at e7
        exact ⟨_, gC_thr e7 ⟨by unfold zr; omega, by decide⟩ (by simp [hs_at]), Or.inl ((zeqv.rf.h30 _).h30 _)⟩
    · rw [if_neg h2] at e7 ⊢
      rw [Option.bind_some, if_neg (show ¬ (2 : Int) = 0 by decide), if_neg (show ¬ (2 : Int) = 1 by decide), if_pos rfl]
      exact ⟨_, gC_thr e7 ⟨by unfold zr; omega, by decide⟩ (by simp [hs_at]), Or.inl ((zeqv.rf.h30 _).h30 _)⟩
  · rw [if_neg h1] at e7 ⊢
    rw [Option.bind_some, if_neg (show ¬ (1 : Int) = 0 by decide), if_pos rfl]
    exact ⟨_, gC_thr e7 ⟨by unfold zr; omega, by decide⟩ (by simp [hs_at]), Or.inl ((zeqv.rf.h30 _).h30 _)⟩
end ZPURE2
