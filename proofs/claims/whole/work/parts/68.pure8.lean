section ZPURE8
/-! the tree: whose child is whose -/
def kid (h : HS) (i : Int) : Nat → Int
  | 0 => h 16 i
  | j + 1 => h 17 (kid h i j)
abbrev PsC (h : HS) : Prop := (∀ i : Int, 0 ≤ i → i < h 9 8 → ∀ j : Nat, (j : Int) < h 15 i → (0 < kid h i j ∧ kid h i j < h 9 8) ∧ h 38 (200 * i + j) = kid h i j ∧ h 10 (kid h i j) = i) ∧ (∀ i : Int, 0 ≤ i → i < h 9 8 → ∀ j j2 : Nat, (j : Int) < h 15 i → (j2 : Int) < h 15 i → kid h i j = kid h i j2 → j = j2)
theorem PsC.c {h : HS} (w : PsC h) : ∀ i : Int, 0 ≤ i → i < h 9 8 → ∀ j : Nat, (j : Int) < h 15 i → (0 < kid h i j ∧ kid h i j < h 9 8) ∧ h 38 (200 * i + j) = kid h i j ∧ h 10 (kid h i j) = i := w.1
theorem PsC.d {h : HS} (w : PsC h) : ∀ i : Int, 0 ≤ i → i < h 9 8 → ∀ j j2 : Nat, (j : Int) < h 15 i → (j2 : Int) < h 15 i → kid h i j = kid h i j2 → j = j2 := w.2
theorem pX4_childL {h : HS} {i : Int} (hn : 1 ≤ h 9 8 ∧ h 9 8 ≤ 200) {K : Nat} (hK : K < 200) (hk : ∀ j : Nat, j ≤ K → 0 ≤ kid h i j ∧ kid h i j < h 9 8) : ∀ (nf j : Nat), j ≤ K → K - j < nf → fX4_child_L34 nf (K : Int) (kid h i j) (j : Int) h = some (kid h i K)
  | 0, j, h1, h2 => by omega
  | nf + 1, j, h1, h2 => by
    obtain ⟨k1, k2⟩ := hk j h1
    rw [fX4_child_L34]
    rw [wr_of (z := (K : Int)) (by omega) (by omega), wr_of (z := (j : Int)) (by omega) (by omega)]
    by_cases hj : (K : Int) ≤ (j : Int)
    · rw [if_pos hj, show j = K by omega]
    · rw [if_neg hj, pX4_has (by unfold zr; omega) hn, if_pos (show 0 ≤ kid h i j ∧ kid h i j < h 9 8 from ⟨k1, k2⟩), Option.bind_some, if_neg (show ¬ wr 1 = 0 by decide), if_pos (by omega)]
      have e := pX4_childL hn hK hk nf (j + 1) (by omega) (by omega)
      rw [Int.natCast_add] at e
      exact e
theorem pX4_child {p x : Int} {h : HS} (hR : PsR h) (hC : PsC h) (h1 : 0 ≤ p ∧ p < h 9 8) (h2 : 0 ≤ x ∧ x < h 15 p) : fX4_child p x h = some (kid h p x.toNat) := by
  obtain ⟨g0, g1, g2, g3, g4⟩ := hR.g p h1.1 h1.2
  have n := hR.n
  unfold fX4_child
  rw [pX4_has (by unfold zr; omega) hR.n, if_pos h1, Option.bind_some, if_neg (show ¬ wr 1 = 0 by decide), wr_of (z := x) (by omega) (by omega), if_neg (by omega), if_pos (by omega), wr_of (z := h 15 p) (by omega) (by omega), if_pos h2.2, if_pos (by omega)]
  have e := pX4_childL (h := h) (i := p) (K := x.toNat) hR.n (by omega) (fun j hj => by
    obtain ⟨⟨a, b⟩, -, -⟩ := hC.c p h1.1 h1.2 j (by omega)
    exact ⟨by omega, b⟩) zF 0 (Nat.zero_le _) (by unfold zF; omega)
  rw [Int.toNat_of_nonneg h2.1] at e
  exact e
theorem pX5_cont {p x : Int} {h : HS} (hp : zr p) (hx : zr x) (hR : PsR h) (hC : PsC h) : fX5_continuation p x h = if (0 ≤ p ∧ p < h 9 8) ∧ 0 ≤ x ∧ x < h 15 p then some (0, kid h p x.toNat, h) else some (1, 0, h) := by
  unfold fX5_continuation fX5_continuation_b27 fX4_childCount
  rw [pX4_has hp hR.n, Option.bind_some, wr_of hx.1 hx.2]
  by_cases h1 : 0 ≤ p ∧ p < h 9 8
  · obtain ⟨g0, g1, g2, g3, g4⟩ := hR.g p h1.1 h1.2
    have n := hR.n
    rw [if_pos h1, if_neg (show ¬ wr 1 = 0 by decide)]
    by_cases h2 : x < 0
    · rw [if_pos h2, if_neg (by omega)]
    · rw [if_neg h2, Option.bind_some, if_neg (show ¬ wr 1 = 0 by decide), if_pos (by omega), Option.bind_some, wr_of (z := h 15 p) (by omega) (by omega)]
      by_cases h3 : x < h 15 p
      · rw [if_pos h3, if_pos (show (0 ≤ p ∧ p < h 9 8) ∧ 0 ≤ x ∧ x < h 15 p from ⟨h1, by omega, h3⟩), pX4_child hR hC h1 ⟨by omega, h3⟩]
        rfl
      · rw [if_neg h3, if_neg (fun e => h3 e.2.2)]
  · rw [if_neg h1, if_pos wr_0, if_neg (fun e => h1 e.1)]
theorem pX6_cont {p x : Int} {h : HS} (hp : zr p) (hx : zr x) (hn : 1 ≤ h 30 8 ∧ h 30 8 ≤ 200) (hc : 0 ≤ p → p < h 30 8 → 0 ≤ h 37 (5 * p + 4) ∧ h 37 (5 * p + 4) < 200) : fX6_continuation p x h = if (0 ≤ p ∧ p < h 30 8) ∧ 0 ≤ x ∧ x < h 37 (5 * p + 4) then some (h 38 (200 * p + x), hs h 30 0 0) else some (0, hs (hs h 30 0 0) 30 0 1) := by
  have z8 : hs h 30 0 0 30 8 = h 30 8 := by simp [hs_at]
  have z37 : ∀ i, hs h 30 0 0 37 i = h 37 i := fun i => by simp [hs_at]
  have z38 : ∀ i, hs h 30 0 0 38 i = h 38 i := fun i => by simp [hs_at]
  unfold fX6_continuation fX6_continuation_b38 fX6_fail fX6_get fX6_continuation0
  rw [pX6_isNode hp (by rw [z8]; exact hn), z8, z37, z38, Option.bind_some]
  by_cases h1 : 0 ≤ p ∧ p < h 30 8
  · obtain ⟨c1, c2⟩ := hc h1.1 h1.2
    rw [if_pos h1, if_neg (show ¬ wr 1 = 0 by decide), if_pos (by omega), Option.bind_some, pX6_isIn hx (by unfold zr; omega) (by unfold zr; omega), Option.bind_some]
    by_cases h2 : 0 ≤ x ∧ x < h 37 (5 * p + 4)
    · rw [if_pos (show 0 ≤ x ∧ x ≤ h 37 (5 * p + 4) - 1 by omega), if_neg (show ¬ wr 1 = 0 by decide), if_pos (by omega), if_pos (show (0 ≤ p ∧ p < h 30 8) ∧ 0 ≤ x ∧ x < h 37 (5 * p + 4) from ⟨h1, h2⟩)]
      rfl
    · rw [if_neg (show ¬ (0 ≤ x ∧ x ≤ h 37 (5 * p + 4) - 1) by omega), if_pos wr_0, if_neg (fun e => h2 e.2)]
      rfl
  · rw [if_neg h1, if_pos wr_0, if_neg (fun e => h1 e.1)]
    rfl
theorem pc_14 {p x : Int} {h : HS} (hp : zr p) (hx : zr x) (hR : PsR h) (hC : PsC h) : ∃ o, fL_c14 p x h = some o ∧ zeqv o h := by
  have eg : fL_c14 p x h = gC (fL_continuation p x h) (fX6_continuation p x) := rfl
  obtain ⟨n, n2, f, g⟩ := id hR
  have hc : 0 ≤ p → p < h 9 8 → h 37 (5 * p + 4) = h 15 p ∧ 0 ≤ h 15 p ∧ h 15 p < 200 := fun a b => by
    obtain ⟨f0, f1, f2, f3, f4⟩ := f p a b
    obtain ⟨g0, g1, g2, g3, g4⟩ := g p a b
    exact ⟨f4, g4.1, g4.2⟩
  rw [eg]
  unfold fL_continuation
  rw [pX5_cont hp hx hR hC]
  by_cases h1 : (0 ≤ p ∧ p < h 9 8) ∧ 0 ≤ x ∧ x < h 15 p
  · obtain ⟨c1, c2, c3⟩ := hc h1.1.1 h1.1.2
    obtain ⟨⟨k1, k2⟩, k3, -⟩ := hC.c p h1.1.1 h1.1.2 x.toNat (by omega)
    rw [if_pos h1, Option.bind_some, if_pos rfl]
    have ek := pX6_cont (h := hs h 50 0 (wr (kid h p x.toNat))) hp hx (by simp [hs_at]; omega) (fun a b => by simp [hs_at]; omega)
    rw [if_pos (by simp [hs_at]; omega)] at ek
    refine ⟨_, gC_ok ek (by show zr (kid h p x.toNat); unfold zr; omega) ?_ ?_ ?_, (zeqv.rf.h50 _ _).h30 _⟩
    · rw [Int.toNat_of_nonneg h1.2.1] at k3
      simp [hs_at]; exact k3.symm
    · simp [hs_at]
    · simp [hs_at]
  · have e7 := pX6_cont (h := h) hp hx (by omega) (fun a b => by obtain ⟨c1, c2, c3⟩ := hc a (by omega); omega)
    rw [n2] at e7
    rw [if_neg (fun e => h1 (by obtain ⟨c1, c2, c3⟩ := hc e.1.1 e.1.2; exact ⟨e.1, e.2.1, by omega⟩))] at e7
    rw [if_neg h1, Option.bind_some, if_neg (show ¬ (1 : Int) = 0 by decide), if_pos rfl]
    exact ⟨_, gC_thr e7 ⟨by unfold zr; omega, by decide⟩ (by simp [hs_at]), (zeqv.rf.h30 _).h30 _⟩
end ZPURE8
