section ZPURE13
theorem pX6_prL {p a : Int} {h : HS} (hp : 0 ≤ p ∧ p < 200) (ha : 0 ≤ a ∧ a < 200) {j : Nat} (hj : j < 200) (hk : ∀ k : Nat, k ≤ j → (0 ≤ h 38 (200 * a + k) ∧ h 38 (200 * a + k) < 200) ∧ (h 38 (200 * a + k) = p ↔ k = j)) : ∀ (nf k : Nat), k ≤ j → j - k < nf → fX6_promote_L38 nf p (200 * a) (k : Int) h = some ((j : Int), hs (hcp h 38 (200 * a) 38 (200 * a + 1) (j : Int)) 38 (200 * a) p)
  | 0, k, h1, h2 => by omega
  | nf + 1, k, h1, h2 => by
    obtain ⟨⟨b1, b2⟩, b3⟩ := hk k h1
    rw [fX6_promote_L38]
    rw [if_pos (show 0 ≤ 200 * a + (k : Int) ∧ 200 * a + (k : Int) < 40000 by omega), wr_of (z := h 38 (200 * a + k)) (by omega) (by omega), wr_of (z := p) (by omega) (by omega)]
    by_cases he : h 38 (200 * a + k) = p
    · have e := b3.mp he
      subst e
      rw [if_pos he, if_pos (by omega), if_pos (by omega)]
    · have e : k ≠ j := fun e => he (b3.mpr e)
      rw [if_neg he]
      have e := pX6_prL hp ha hj hk nf (k + 1) (by omega) (by omega)
      rw [Int.natCast_add] at e
      exact e
/-- the list with one child put in front -/
def nProm (p a : Int) (j : Nat) (h : HS) : HS := if j = 0 then h else hs (hs (hs h 17 (kid h a (j - 1)) (h 17 p)) 17 p (h 16 a)) 16 a p
theorem pX4_makeMain {p : Int} {h : HS} (hR : PsR h) (hC : PsC h) (hp : 1 ≤ p ∧ p < h 9 8) {a : Int} (ha : h 10 p = a) (ha0 : 0 ≤ a ∧ a < h 9 8) {j : Nat} (hj : (j : Int) < h 15 a) (hk : kid h a j = p) : fX4_makeMain p h = some ((j : Int), nProm p a j h) := by
  have n := hR.n
  obtain ⟨g0, g1, g2, g3, g4⟩ := hR.g a ha0.1 ha0.2
  unfold fX4_makeMain nProm
  rw [pX4_placeOf hR hC hp ha ha0 hj hk, Option.bind_some, pX4_above hR ⟨by omega, hp.2⟩, ha, Option.bind_some]
  by_cases h0 : j = 0
  · subst h0
    have ec : fX4_child a ((0 : Nat) - 1 : Int) h = some (-1) := by
      unfold fX4_child
      rw [pX4_has (by unfold zr; omega) n, if_pos ha0, Option.bind_some, if_neg (show ¬ wr 1 = 0 by decide), wr_of (by omega) (by omega), if_pos (by omega)]
    rw [ec, Option.bind_some, pX4_has (by unfold zr; omega) n, if_pos (show 0 ≤ p ∧ p < h 9 8 by omega), Option.bind_some, if_neg (show ¬ wr 1 = 0 by decide), pX4_has (by unfold zr; omega) n, if_pos ha0, Option.bind_some, if_neg (show ¬ wr 1 = 0 by decide), pX4_has (by unfold zr; omega) n, if_neg (show ¬ ((0 : Int) ≤ -1 ∧ (-1 : Int) < h 9 8) by omega), Option.bind_some, if_pos wr_0, if_pos rfl]
  · obtain ⟨⟨k1, k2⟩, k3, k4⟩ := hC.c a ha0.1 ha0.2 (j - 1) (by omega)
    have ec : fX4_child a ((j : Int) - 1) h = some (kid h a (j - 1)) := by
      rw [pX4_child hR hC ha0 ⟨by omega, by omega⟩, show ((j : Int) - 1).toNat = j - 1 by omega]
    have e16 : hs h 17 (kid h a (j - 1)) (h 17 p) 16 a = h 16 a := hs_ne' (by decide)
    rw [ec, Option.bind_some, pX4_has (by unfold zr; omega) n, if_pos (show 0 ≤ p ∧ p < h 9 8 by omega), Option.bind_some, if_neg (show ¬ wr 1 = 0 by decide), pX4_has (by unfold zr; omega) n, if_pos ha0, Option.bind_some, if_neg (show ¬ wr 1 = 0 by decide), pX4_has (by unfold zr; omega) n, if_pos (show 0 ≤ kid h a (j - 1) ∧ kid h a (j - 1) < h 9 8 by omega), Option.bind_some, if_neg (show ¬ wr 1 = 0 by decide), if_pos (show 0 ≤ p ∧ p < 200 by omega), if_pos (show 0 ≤ kid h a (j - 1) ∧ kid h a (j - 1) < 200 by omega), if_pos (show 0 ≤ a ∧ a < 200 by omega), if_pos (show 0 ≤ p ∧ p < 200 by omega), if_pos (show 0 ≤ a ∧ a < 200 by omega), e16, if_neg h0]
end ZPURE13
