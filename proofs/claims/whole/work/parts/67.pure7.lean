section ZPURE7
/-! the tree: what a node is -/
abbrev PsR (h : HS) : Prop := (1 ≤ h 9 8 ∧ h 9 8 ≤ 200) ∧ (h 30 8 = h 9 8) ∧ (∀ i : Int, 0 ≤ i → i < h 9 8 → h 37 (5 * i) = h 10 i ∧ h 37 (5 * i + 1) = h 11 i ∧ h 37 (5 * i + 2) = h 12 i ∧ h 37 (5 * i + 3) = h 14 i ∧ h 37 (5 * i + 4) = h 15 i) ∧ (∀ i : Int, 0 ≤ i → i < h 9 8 → (-1 ≤ h 10 i ∧ h 10 i < 200) ∧ (-1 ≤ h 11 i ∧ h 11 i < 64) ∧ (-1 ≤ h 12 i ∧ h 12 i < 64) ∧ (0 ≤ h 14 i ∧ h 14 i < 200) ∧ (0 ≤ h 15 i ∧ h 15 i < 200))
theorem PsR.n {h : HS} (w : PsR h) : 1 ≤ h 9 8 ∧ h 9 8 ≤ 200 := w.1
theorem PsR.n2 {h : HS} (w : PsR h) : h 30 8 = h 9 8 := w.2.1
theorem PsR.f {h : HS} (w : PsR h) : ∀ i : Int, 0 ≤ i → i < h 9 8 → h 37 (5 * i) = h 10 i ∧ h 37 (5 * i + 1) = h 11 i ∧ h 37 (5 * i + 2) = h 12 i ∧ h 37 (5 * i + 3) = h 14 i ∧ h 37 (5 * i + 4) = h 15 i := w.2.2.1
theorem PsR.g {h : HS} (w : PsR h) : ∀ i : Int, 0 ≤ i → i < h 9 8 → (-1 ≤ h 10 i ∧ h 10 i < 200) ∧ (-1 ≤ h 11 i ∧ h 11 i < 64) ∧ (-1 ≤ h 12 i ∧ h 12 i < 64) ∧ (0 ≤ h 14 i ∧ h 14 i < 200) ∧ (0 ≤ h 15 i ∧ h 15 i < 200) := w.2.2.2
theorem pX4_has {p : Int} {h : HS} (hp : zr p) (hn : 1 ≤ h 9 8 ∧ h 9 8 ≤ 200) : fX4_has p h = some (if 0 ≤ p ∧ p < h 9 8 then 1 else 0) := by
  unfold fX4_has
  rw [wr_of hp.1 hp.2, wr_of (z := h 9 8) (by omega) (by omega)]
  by_cases h1 : p < 0
  · rw [if_pos h1, if_neg (by omega)]
  · rw [if_neg h1]
    by_cases h2 : h 9 8 ≤ p
    · rw [if_pos h2, if_neg (by omega)]
    · rw [if_neg h2, if_pos (by omega)]
theorem pX4_row {p d : Int} {h : HS} {a : Nat} (hp : zr p) (hn : 1 ≤ h 9 8 ∧ h 9 8 ≤ 200) (h1 : 0 ≤ p ∧ p < h 9 8) : ((fX4_has p h).bind fun r1 => if wr r1 = 0 then some d else if (0 : Int) ≤ p ∧ p < 200 then some (h a p) else none) = some (h a p) := by
  rw [pX4_has hp hn, if_pos h1, Option.bind_some, if_neg (show ¬ wr 1 = 0 by decide), if_pos (by omega)]
def ndV (p x : Int) (h : HS) : Int := if x = 0 then h 10 p else if x = 1 then h 11 p else if x = 2 then h 12 p else if x = 3 then h 14 p else h 15 p
theorem pX5_node {p x : Int} {h : HS} (hp : zr p) (hx : zr x) (hR : PsR h) : fX5_node p x h = if (0 ≤ p ∧ p < h 9 8) ∧ 0 ≤ x ∧ x ≤ 4 then some (0, ndV p x h, h) else some (1, 0, h) := by
  obtain ⟨n, n2, f, g⟩ := hR
  unfold fX5_node fX5_node_b20
  rw [pX4_has hp n, wr_of hx.1 hx.2, Option.bind_some]
  by_cases h1 : 0 ≤ p ∧ p < h 9 8
  · rw [if_pos h1, if_neg (show ¬ wr 1 = 0 by decide)]
    by_cases h2 : x < 0
    · rw [if_pos h2, if_neg (by omega)]
    · rw [if_neg h2]
      by_cases h3 : x < 5
      · rw [if_pos h3, if_pos (show (0 ≤ p ∧ p < h 9 8) ∧ 0 ≤ x ∧ x ≤ 4 by omega)]
        unfold fX4_fact fX4_above fX4_from fX4_to fX4_depth fX4_childCount ndV
        rw [pX4_row hp n h1, pX4_row hp n h1, pX4_row hp n h1, pX4_row hp n h1, pX4_row hp n h1, wr_of hx.1 hx.2]
        by_cases k0 : x = 0
        · rw [if_pos k0, if_pos k0]; rfl
        · rw [if_neg k0, if_neg k0]
          by_cases k1 : x = 1
          · rw [if_pos k1, if_pos k1]; rfl
          · rw [if_neg k1, if_neg k1]
            by_cases k2 : x = 2
            · rw [if_pos k2, if_pos k2]; rfl
            · rw [if_neg k2, if_neg k2]
              by_cases k3 : x = 3
              · rw [if_pos k3, if_pos k3]; rfl
              · rw [if_neg k3, if_neg k3]; rfl
      · rw [if_neg h3, if_neg (by omega)]
  · rw [if_neg h1, if_pos wr_0, if_neg (fun e => h1 e.1)]
theorem pX6_isNode {p : Int} {h : HS} (hp : zr p) (hn : 1 ≤ h 30 8 ∧ h 30 8 ≤ 200) : fX6_isNode p h = some (if 0 ≤ p ∧ p < h 30 8 then 1 else 0) := by
  unfold fX6_isNode
  rw [pX6_isIn hp (by unfold zr; omega) (by unfold zr; omega), Option.bind_some]
  by_cases h1 : 0 ≤ p ∧ p < h 30 8
  · rw [if_pos h1, if_pos (show 0 ≤ p ∧ p ≤ h 30 8 - 1 by omega), if_pos (Or.inr rfl)]
  · rw [if_neg h1, if_neg (show ¬ (0 ≤ p ∧ p ≤ h 30 8 - 1) by omega), if_pos (Or.inl rfl)]
theorem pX6_node {p x : Int} {h : HS} (hp : zr p) (hx : zr x) (hn : 1 ≤ h 30 8 ∧ h 30 8 ≤ 200) : fX6_node p x h = if (0 ≤ p ∧ p < h 30 8) ∧ 0 ≤ x ∧ x ≤ 4 then some (h 37 (5 * p + x), hs h 30 0 0) else some (0, hs (hs h 30 0 0) 30 0 1) := by
  have z8 : hs h 30 0 0 30 8 = h 30 8 := by simp [hs_at]
  have z37 : ∀ i, hs h 30 0 0 37 i = h 37 i := fun i => by simp [hs_at]
  unfold fX6_node fX6_node_b31 fX6_fail fX6_get
  rw [pX6_isNode hp (by rw [z8]; exact hn), z8, z37, pX6_isIn hx (by unfold zr; omega) (by unfold zr; omega), Option.bind_some]
  by_cases h1 : 0 ≤ p ∧ p < h 30 8
  · rw [if_pos h1, if_neg (show ¬ wr 1 = 0 by decide), Option.bind_some]
    by_cases h2 : 0 ≤ x ∧ x ≤ 4
    · rw [if_pos h2, if_neg (show ¬ wr 1 = 0 by decide), if_pos (show (0 ≤ p ∧ p < h 30 8) ∧ 0 ≤ x ∧ x ≤ 4 from ⟨h1, h2⟩), if_pos (by omega)]
      rfl
    · rw [if_neg h2, if_pos wr_0, if_neg (fun e => h2 e.2)]
      rfl
  · rw [if_neg h1, if_pos wr_0, if_neg (fun e => h1 e.1)]
    rfl
theorem ndV_eq {p x : Int} {h : HS} (hR : PsR h) (h1 : 0 ≤ p ∧ p < h 9 8) (h2 : 0 ≤ x ∧ x ≤ 4) : h 37 (5 * p + x) = ndV p x h ∧ -1 ≤ ndV p x h ∧ ndV p x h < 200 := by
  obtain ⟨f0, f1, f2, f3, f4⟩ := hR.f p h1.1 h1.2
  obtain ⟨g0, g1, g2, g3, g4⟩ := hR.g p h1.1 h1.2
  unfold ndV
  rcases (show x = 0 ∨ x = 1 ∨ x = 2 ∨ x = 3 ∨ x = 4 by omega) with e | e | e | e | e
  · subst e; rw [if_pos rfl, Int.add_zero]; omega
  · subst e; rw [if_neg (by decide), if_pos rfl]; omega
  · subst e; rw [if_neg (by decide), if_neg (by decide), if_pos rfl]; omega
  · subst e; rw [if_neg (by decide), if_neg (by decide), if_neg (by decide), if_pos rfl]; omega
  · subst e; rw [if_neg (by decide), if_neg (by decide), if_neg (by decide), if_neg (by decide)]; omega
theorem pc_13 {p x : Int} {h : HS} (hp : zr p) (hx : zr x) (hR : PsR h) : ∃ o, fL_c13 p x h = some o ∧ zeqv o h := by
  have eg : fL_c13 p x h = gC (fL_node p x h) (fX6_node p x) := rfl
  obtain ⟨n, n2, -, -⟩ := id hR
  rw [eg]
  unfold fL_node
  rw [pX5_node hp hx hR]
  by_cases h1 : (0 ≤ p ∧ p < h 9 8) ∧ 0 ≤ x ∧ x ≤ 4
  · obtain ⟨k1, k2, k3⟩ := ndV_eq hR h1.1 h1.2
    rw [if_pos h1, Option.bind_some, if_pos rfl]
    have ek := pX6_node (h := hs h 50 0 (wr (ndV p x h))) hp hx (by simp [hs_at]; omega)
    rw [if_pos (by simp [hs_at]; omega)] at ek
    refine ⟨_, gC_ok ek (by show zr (ndV p x h); unfold zr; omega) ?_ ?_ ?_, (zeqv.rf.h50 _ _).h30 _⟩
    · simp [hs_at]; exact k1.symm
    · simp [hs_at]
    · simp [hs_at]
  · have e7 := pX6_node (h := h) hp hx (by omega)
    rw [n2, if_neg h1] at e7
    rw [if_neg h1, Option.bind_some, if_neg (show ¬ (1 : Int) = 0 by decide), if_pos rfl]
    exact ⟨_, gC_thr e7 ⟨by unfold zr; omega, by decide⟩ (by simp [hs_at]), (zeqv.rf.h30 _).h30 _⟩
end ZPURE7
