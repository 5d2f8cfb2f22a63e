section ZPURE4
/-! feed -/
def apT (p : Int) (h : HS) : HS := hs (hs h 20 (h 19 1) p) 19 1 (h 19 1 + 1)
def apU (p : Int) (h : HS) : HS := if p = -1 then h else apT p h
def mdU (p x : Int) (h : HS) : HS := if p = -1 then h else hs h 39 x p
def xU (p x : Int) : Int := if p = -1 then x else x + 1
abbrev byN (p : Int) : Prop := -1 ≤ p ∧ p ≤ 255
theorem pX3_append {p : Int} {h : HS} (hn : 0 ≤ h 19 1 ∧ h 19 1 < 2000) : fX3_append p h = some (apT p h) := by
  unfold fX3_append apT
  have e : hs h 20 (h 19 1) p 19 1 = h 19 1 := by simp [hs_at]
  rw [wr_of (z := h 19 1) (by omega) (by omega), if_neg (by omega), if_pos (by omega), e]
theorem pX5_apU {p : Int} {h : HS} (hp : byN p) (hn : 0 ≤ h 19 1 ∧ (p = -1 ∨ h 19 1 < 2000)) : fX5_appendUnlessNothing p h = some (apU p h) := by
  unfold fX5_appendUnlessNothing apU
  rw [wr_of (z := p) (by omega) (by omega)]
  by_cases h1 : p = -1
  · rw [if_pos h1, if_pos h1]
  · rw [if_neg h1, if_neg h1, pX3_append (by omega)]
    rfl
theorem apU_size (p : Int) (h : HS) : apU p h 19 1 = xU p (h 19 1) := by
  unfold apU xU
  by_cases h1 : p = -1
  · rw [if_pos h1, if_pos h1]
  · rw [if_neg h1, if_neg h1]
    unfold apT
    simp [hs_at]
theorem mdU_at {p x : Int} {h : HS} {a : Nat} {b : Int} (ha : a ≠ 39) : mdU p x h a b = h a b := by
  unfold mdU
  by_cases h1 : p = -1
  · rw [if_pos h1]
  · rw [if_neg h1, hs_at, if_neg ha]
theorem apU_at {p : Int} {h : HS} {a : Nat} {b : Int} (ha : a ≠ 19) (hb : a ≠ 20) : apU p h a b = h a b := by
  unfold apU apT
  by_cases h1 : p = -1
  · rw [if_pos h1]
  · rw [if_neg h1, hs_at, if_neg ha, hs_at, if_neg hb]
/-- both tapes alike up to x -/
def eqT (hc hm : HS) (x : Int) : Prop := (hc 19 1 = x ∧ 0 ≤ x ∧ x ≤ 2000) ∧ ∀ i : Int, 0 ≤ i → i < x → hm 39 i = hc 20 i ∧ 0 ≤ hc 20 i ∧ hc 20 i ≤ 255
theorem eqT.step {hc hm : HS} {x p : Int} (hp : byN p) (h : eqT hc hm x) (hx : p = -1 ∨ x < 2000) : eqT (apU p hc) (mdU p x hm) (xU p x) := by
  obtain ⟨⟨h1, h2, h3⟩, h4⟩ := h
  unfold apU mdU xU
  by_cases hp1 : p = -1
  · rw [if_pos hp1, if_pos hp1, if_pos hp1]
    exact ⟨⟨h1, h2, h3⟩, h4⟩
  · rw [if_neg hp1, if_neg hp1, if_neg hp1]
    refine ⟨⟨by unfold apT; simp [hs_at, h1], by omega, by omega⟩, fun i i0 i1 => ?_⟩
    unfold apT
    have e1 : hs (hs hc 20 (hc 19 1) p) 19 1 (hc 19 1 + 1) 20 i = if i = x then p else hc 20 i := by simp [hs_at, h1]
    have e2 : hs hm 39 x p 39 i = if i = x then p else hm 39 i := by simp [hs_at]
    rw [e1, e2]
    by_cases hi : i = x
    · rw [if_pos hi, if_pos hi]
      omega
    · rw [if_neg hi, if_neg hi]
      exact h4 i i0 (by omega)
theorem eqT.model {hc hm hm2 : HS} {x : Int} (h : eqT hc hm x) (e : ∀ i, hm2 39 i = hm 39 i) : eqT hc hm2 x := ⟨h.1, fun i i0 i1 => by rw [e]; exact h.2 i i0 i1⟩
theorem pX6_feedL {x j : Int} {H : HS} {nf : Nat} (hj : 0 ≤ j ∧ j < 3) (hv : byN (H 91 j)) (hx : 0 ≤ x ∧ x ≤ 2000 ∧ (H 91 j = -1 ∨ x < 2000)) : fX6_feed_L157 (nf + 1) x 3 j H = fX6_feed_L157 nf (xU (H 91 j) x) 3 (j + 1) (mdU (H 91 j) x H) := by
  rw [fX6_feed_L157]
  unfold fX6_feed_b191 xU mdU
  rw [wr_of (z := 3) (by omega) (by omega), wr_of (z := j) (by omega) (by omega), if_neg (by omega), if_pos hj, wr_of (z := H 91 j) (by omega) (by omega)]
  by_cases h1 : H 91 j = -1
  · rw [if_neg (by omega), if_pos h1, if_pos h1]
  · rw [if_pos (by omega), if_pos (by omega), if_neg h1, if_neg h1]
theorem pX6_feedE {x : Int} {H : HS} {nf : Nat} : fX6_feed_L157 (nf + 1) x 3 3 H = some (x, hz (hs H 30 13 x) 91) := by
  rw [fX6_feed_L157]
  rw [if_pos (Int.le_refl _)]
  have e : hs H 30 13 x 30 13 = x := by simp [hs_at]
  rw [e]
end ZPURE4
