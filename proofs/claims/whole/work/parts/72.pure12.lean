section ZPURE12
/-- each node but 0 is among the children of the node above it -/
abbrev PsA (h : HS) : Prop := ∀ p : Int, 1 ≤ p → p < h 9 8 → (0 ≤ h 10 p ∧ h 10 p < p) ∧ ∃ j : Nat, (j : Int) < h 15 (h 10 p) ∧ kid h (h 10 p) j = p
theorem PsNew.A {h : HS} (w : PsNew h) : PsA h := fun p p0 p1 => by have := w.n.1; omega
theorem pX4_above {p : Int} {h : HS} (hR : PsR h) (h1 : 0 ≤ p ∧ p < h 9 8) : fX4_above p h = some (h 10 p) := by
  have n := hR.n
  unfold fX4_above
  exact pX4_row (by unfold zr; omega) n h1
theorem pX4_count {p : Int} {h : HS} (hR : PsR h) (h1 : 0 ≤ p ∧ p < h 9 8) : fX4_childCount p h = some (h 15 p) := by
  have n := hR.n
  unfold fX4_childCount
  exact pX4_row (by unfold zr; omega) n h1
theorem pX4_placeL {p : Int} {h : HS} (hR : PsR h) (hC : PsC h) (hp : 1 ≤ p ∧ p < h 9 8) {a : Int} (ha : h 10 p = a) (ha0 : 0 ≤ a ∧ a < h 9 8) {j : Nat} (hj : (j : Int) < h 15 a) (hk : kid h a j = p) : ∀ (nf k : Nat), k ≤ j → j - k < nf → fX4_placeOf_L13 nf p (kid h a k) (k : Int) h = some (j : Int)
  | 0, k, h1, h2 => by omega
  | nf + 1, k, h1, h2 => by
    have n := hR.n
    obtain ⟨g0, g1, g2, g3, g4⟩ := hR.g a ha0.1 ha0.2
    obtain ⟨⟨k1, k2⟩, k3, k4⟩ := hC.c a ha0.1 ha0.2 k (by omega)
    rw [fX4_placeOf_L13]
    rw [pX4_above hR ⟨by omega, hp.2⟩, ha, Option.bind_some, pX4_count hR ha0, Option.bind_some, wr_of (z := h 15 a) (by omega) (by omega), wr_of (z := (k : Int)) (by omega) (by omega), if_neg (by omega), pX4_has (by unfold zr; omega) n, if_pos (show 0 ≤ kid h a k ∧ kid h a k < h 9 8 by omega), Option.bind_some, if_neg (show ¬ wr 1 = 0 by decide), wr_of (z := kid h a k) (by omega) (by omega), wr_of (z := p) (by omega) (by omega)]
    by_cases he : kid h a k = p
    · rw [if_pos he]
      have e := hC.d a ha0.1 ha0.2 k j (by omega) hj (by rw [he, hk])
      rw [e]
    · rw [if_neg he, if_pos (by omega)]
      have hkj : k < j := by
        rcases Nat.lt_or_ge k j with g | g
        · exact g
        · exact absurd (by rw [show k = j by omega]; exact hk) he
      have e := pX4_placeL hR hC hp ha ha0 hj hk nf (k + 1) (by omega) (by omega)
      rw [Int.natCast_add] at e
      exact e
theorem pX4_placeOf {p : Int} {h : HS} (hR : PsR h) (hC : PsC h) (hp : 1 ≤ p ∧ p < h 9 8) {a : Int} (ha : h 10 p = a) (ha0 : 0 ≤ a ∧ a < h 9 8) {j : Nat} (hj : (j : Int) < h 15 a) (hk : kid h a j = p) : fX4_placeOf p h = some (j : Int) := by
  obtain ⟨g0, g1, g2, g3, g4⟩ := hR.g a ha0.1 ha0.2
  unfold fX4_placeOf
  rw [pX4_above hR ⟨by omega, hp.2⟩, ha, Option.bind_some, pX4_child hR hC ha0 ⟨by omega, by omega⟩, Option.bind_some]
  exact pX4_placeL hR hC hp ha ha0 hj hk zF 0 (Nat.zero_le _) (by unfold zF; omega)
end ZPURE12
