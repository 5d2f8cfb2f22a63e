section ZPURE3
/-! put -/
def pVal (x y : Int) : Int := if x = -1 then -1 else 2 * x + y
def nPut (p v : Int) (h : HS) : HS := hs (hs (hs h 8 p v) 34 p v) 35 p v
theorem pX5_put {p x y : Int} {h : HS} (hp : zr p) (hx : zr x) (hy : zr y) (hn : 0 ≤ h 1 5 ∧ h 1 5 ≤ 6) (hN : PsN0 h) : fX5_put p x y h = if (0 ≤ p ∧ p < 64) ∧ (x = -1 ∨ (0 ≤ x ∧ x < h 1 5)) then (if y = 0 ∨ y = 1 then (if h 9 8 ≤ 1 then some (0, h 8 p, hs h 8 p (pVal x y)) else some (3, 0, h)) else some (2, 0, h)) else some (1, 0, h) := by
  obtain ⟨m, m2⟩ := id hN
  have hb : fX5_put_b33 p x y h = if y = 0 ∨ y = 1 then fX5_put_b52 p x y h else some (2, 0, h) := by
    unfold fX5_put_b33
    rw [wr_of hy.1 hy.2]
    by_cases h1 : y = 0
    · rw [if_pos h1, if_pos (Or.inl h1)]
    · rw [if_neg h1]
      by_cases h2 : y = 1
      · rw [if_pos h2, if_pos (Or.inr h2)]
      · rw [if_neg h2, if_neg (by omega)]
  have hc : 0 ≤ p ∧ p < 64 → fX5_put_b52 p x y h = if h 9 8 ≤ 1 then some (0, h 8 p, hs h 8 p (pVal x y)) else some (3, 0, h) := by
    intro h1
    unfold fX5_put_b52 fX5_put_b92 fX0_replace fX4_size pVal
    rw [fX5_isSq hp, Option.bind_some, wr_of (z := h 9 8) (by omega) (by omega), wr_of hx.1 hx.2, if_pos h1]
    by_cases h2 : h 9 8 ≤ 1
    · rw [if_pos h2, if_pos h2]
      by_cases h3 : x = -1
      · simp only [if_pos h3, if_pos h1, Option.bind_some, if_neg (show ¬ wr 1 = 0 by decide)]
      · simp only [if_neg h3, if_pos h1, Option.bind_some, if_neg (show ¬ wr 1 = 0 by decide)]
    · rw [if_neg h2, if_neg h2]
  unfold fX5_put fX5_put_b23
  rw [fX5_isSq hp, pX1_has hx hn, Option.bind_some, Option.bind_some, wr_of hx.1 hx.2, hb]
  by_cases h1 : 0 ≤ p ∧ p < 64
  · rw [if_pos h1, if_neg (show ¬ wr 1 = 0 by decide), hc h1]
    by_cases h2 : x = -1
    · rw [if_pos h2, if_pos (show (0 ≤ p ∧ p < 64) ∧ (x = -1 ∨ (0 ≤ x ∧ x < h 1 5)) from ⟨h1, Or.inl h2⟩)]
    · rw [if_neg h2]
      by_cases h3 : 0 ≤ x ∧ x < h 1 5
      · rw [if_pos h3, if_neg (show ¬ wr 1 = 0 by decide), if_pos (show (0 ≤ p ∧ p < 64) ∧ (x = -1 ∨ (0 ≤ x ∧ x < h 1 5)) from ⟨h1, Or.inr h3⟩)]
      · rw [if_neg h3, if_pos wr_0, if_neg (show ¬ ((0 ≤ p ∧ p < 64) ∧ (x = -1 ∨ (0 ≤ x ∧ x < h 1 5))) by omega)]
  · rw [if_neg h1, if_pos wr_0, if_neg (show ¬ ((0 ≤ p ∧ p < 64) ∧ (x = -1 ∨ (0 ≤ x ∧ x < h 1 5))) from fun e => h1 e.1)]
theorem pX6_put {p x y : Int} {h : HS} (hp : zr p) (hx : zr x) (hy : zr y) (hn : 0 ≤ h 30 1 ∧ h 30 1 ≤ 6) (hN : 1 ≤ h 30 8 ∧ h 30 8 ≤ 200) : fX6_put p x y h = if (0 ≤ p ∧ p < 64) ∧ (x = -1 ∨ (0 ≤ x ∧ x < h 30 1)) then (if y = 0 ∨ y = 1 then (if h 30 8 ≤ 1 then some (h 34 p, hs (hs (hs h 30 0 0) 34 p (pVal x y)) 35 p (pVal x y)) else some (0, hs (hs h 30 0 0) 30 0 3)) else some (0, hs (hs h 30 0 0) 30 0 2)) else some (0, hs (hs h 30 0 0) 30 0 1) := by
  have z1 : hs h 30 0 0 30 1 = h 30 1 := by simp [hs_at]
  have z8 : hs h 30 0 0 30 8 = h 30 8 := by simp [hs_at]
  have z34 : ∀ i, hs h 30 0 0 34 i = h 34 i := fun i => by simp [hs_at]
  have hb : 0 ≤ p ∧ p < 64 → fX6_put_b37 p x y (hs h 30 0 0) = if y = 0 ∨ y = 1 then (if h 30 8 ≤ 1 then some (h 34 p, hs (hs (hs h 30 0 0) 34 p (pVal x y)) 35 p (pVal x y)) else some (0, hs (hs h 30 0 0) 30 0 3)) else some (0, hs (hs h 30 0 0) 30 0 2) := by
    intro h1
    unfold fX6_put_b37 fX6_put_b93 fX6_fail pVal
    rw [pX6_isIn hy (by unfold zr; omega) (by unfold zr; omega), Option.bind_some, z8, z34, wr_of (z := h 30 8) (by omega) (by omega), wr_of hx.1 hx.2]
    have hv : ∀ v : Int, hs (hs h 30 0 0) 34 p v 34 p = v := fun v => by simp [hs_at]
    by_cases h2 : y = 0 ∨ y = 1
    · rw [if_pos h2, if_pos (show 0 ≤ y ∧ y ≤ 1 by omega), if_neg (show ¬ wr 1 = 0 by decide)]
      by_cases h3 : h 30 8 ≤ 1
      · rw [if_pos h3, if_pos h3, if_pos h1]
        by_cases h4 : x = -1
        · simp only [if_pos h4, if_pos h1, hv]
        · simp only [if_neg h4, if_pos h1, hv]
      · rw [if_neg h3, if_neg h3]
        rfl
    · rw [if_neg h2, if_neg (show ¬ (0 ≤ y ∧ y ≤ 1) by omega), if_pos wr_0]
      rfl
  unfold fX6_put fX6_put_b31 fX6_fail
  rw [fX6_isSq hp, z1, pX6_isIn hx (by unfold zr; omega) (by unfold zr; omega), Option.bind_some, Option.bind_some, wr_of hx.1 hx.2]
  by_cases h1 : 0 ≤ p ∧ p < 64
  · rw [if_pos h1, if_neg (show ¬ wr 1 = 0 by decide), hb h1]
    by_cases h2 : x = -1
    · rw [if_pos h2, if_pos (show (0 ≤ p ∧ p < 64) ∧ (x = -1 ∨ (0 ≤ x ∧ x < h 30 1)) from ⟨h1, Or.inl h2⟩)]
    · rw [if_neg h2]
      by_cases h3 : 0 ≤ x ∧ x < h 30 1
      · rw [if_pos (show 0 ≤ x ∧ x ≤ h 30 1 - 1 by omega), Option.bind_some, if_neg (show ¬ wr 1 = 0 by decide), if_pos (show (0 ≤ p ∧ p < 64) ∧ (x = -1 ∨ (0 ≤ x ∧ x < h 30 1)) from ⟨h1, Or.inr h3⟩)]
      · rw [if_neg (show ¬ (0 ≤ x ∧ x ≤ h 30 1 - 1) by omega), Option.bind_some, if_pos wr_0, if_neg (show ¬ ((0 ≤ p ∧ p < 64) ∧ (x = -1 ∨ (0 ≤ x ∧ x < h 30 1))) by omega)]
  · rw [if_neg h1, if_pos wr_0, if_neg (show ¬ ((0 ≤ p ∧ p < 64) ∧ (x = -1 ∨ (0 ≤ x ∧ x < h 30 1))) from fun e => h1 e.1)]
theorem pc_2 {p x y : Int} {h : HS} (hp : zr p) (hx : zr x) (hy : zr y) (hB : PsB h) (hN : PsN0 h) (hF : h 9 8 ≤ 1 → ∀ s : Int, 0 ≤ s → s < 64 → h 34 s = h 8 s) : ∃ o, fL_c2 p x y h = some o ∧ (zeqv o h ∨ ((0 ≤ p ∧ p < 64) ∧ (x = -1 ∨ (0 ≤ x ∧ x < h 1 5)) ∧ (y = 0 ∨ y = 1) ∧ h 9 8 ≤ 1 ∧ zeqv o (nPut p (pVal x y) h))) := by
  have eg : fL_c2 p x y h = gC (fL_put p x y h) (fX6_put p x y) := rfl
  obtain ⟨m, m2⟩ := id hN
  obtain ⟨n, n2, hb⟩ := id hB
  have e7 := pX6_put (h := h) hp hx hy (by omega) (by omega)
  rw [n2, m2] at e7
  rw [eg]
  unfold fL_put
  rw [pX5_put hp hx hy n hN]
  by_cases h1 : (0 ≤ p ∧ p < 64) ∧ (x = -1 ∨ (0 ≤ x ∧ x < h 1 5))
  · obtain ⟨b1, b2, b3⟩ := hb p h1.1.1 h1.1.2
    rw [if_pos h1] at e7 ⊢
    by_cases h2 : y = 0 ∨ y = 1
    · rw [if_pos h2] at e7 ⊢
      by_cases h3 : h 9 8 ≤ 1
      · rw [if_pos h3, Option.bind_some, if_pos rfl]
        have ek := pX6_put (h := hs (hs h 8 p (pVal x y)) 50 0 (wr (h 8 p))) hp hx hy (by simp [hs_at]; omega) (by simp [hs_at]; omega)
        rw [if_pos (by simp only [hs_at]; simp [n2]; exact ⟨h1.1, h1.2⟩), if_pos h2, if_pos (by simp [hs_at]; omega)] at ek
        refine ⟨_, gC_ok ek (by show zr (h 8 p); unfold zr; omega) ?_ ?_ ?_, Or.inr ⟨h1.1, h1.2, h2, h3, ?_⟩⟩
        · simp [hs_at]; exact (hF h3 p h1.1.1 h1.1.2).symm
        · simp [hs_at]
        · simp [hs_at]
        · intro a b g1 g2
          unfold nPut
          simp only [hs_at]
          by_cases ha : a = 30
          · subst ha
            have hb : b ≠ 0 := fun e => g2 ⟨rfl, e⟩
            simp [hb]
          · simp [ha, g1]
      · rw [if_neg h3, Option.bind_some, if_neg (show ¬ (3 : Int) = 0 by decide), if_neg (show ¬ (3 : Int) = 1 by decide), if_neg (show ¬ (3 : Int) = 2 by decide), if_pos rfl]
        rw [if_neg h3] at e7
        exact ⟨_, gC_thr e7 ⟨by unfold zr; omega, by decide⟩ (by simp [hs_at]), Or.inl ((zeqv.rf.h30 _).h30 _)⟩
    · rw [if_neg h2] at e7 ⊢
      rw [Option.bind_some, if_neg (show ¬ (2 : Int) = 0 by decide), if_neg (show ¬ (2 : Int) = 1 by decide), if_pos rfl]
      exact ⟨_, gC_thr e7 ⟨by unfold zr; omega, by decide⟩ (by simp [hs_at]), Or.inl ((zeqv.rf.h30 _).h30 _)⟩
  · rw [if_neg h1] at e7 ⊢
    rw [Option.bind_some, if_neg (show ¬ (1 : Int) = 0 by decide), if_pos rfl]
    exact ⟨_, gC_thr e7 ⟨by unfold zr; omega, by decide⟩ (by simp [hs_at]), Or.inl ((zeqv.rf.h30 _).h30 _)⟩
end ZPURE3
