section ZREF
/-! the reference: reach, check -/
theorem mX6_side {v : Int} {h : HS} (hv : -1 ≤ v ∧ v < 100) : fX6_sideOf v h = some (sdOf v) := by
  unfold fX6_sideOf sdOf
  rw [wr_of (by omega) (by omega)]
  by_cases e : v = -1
  · rw [if_pos e, if_pos e]
  · rw [if_neg e, if_neg e, if_pos (by omega)]
theorem sdOf_rg {v : Int} (hv : -1 ≤ v) : -1 ≤ sdOf v ∧ sdOf v ≤ 1 := by
  unfold sdOf
  by_cases e : v = -1
  · rw [if_pos e]; omega
  · rw [if_neg e]; omega
theorem sdY_bd {p y : Int} (hy : -3 ≤ y ∧ y ≤ 3) : -3 ≤ sdY p y ∧ sdY p y ≤ 3 := by
  unfold sdY
  by_cases e : p % 2 = 0
  · rw [if_pos e]; omega
  · rw [if_neg e]; omega
theorem mul_bd {m s : Int} (hm : 0 ≤ m ∧ m ≤ 8) (hs : -3 ≤ s ∧ s ≤ 3) : -24 ≤ m * s ∧ m * s ≤ 24 := by
  rcases (show m = 0 ∨ m = 1 ∨ m = 2 ∨ m = 3 ∨ m = 4 ∨ m = 5 ∨ m = 6 ∨ m = 7 ∨ m = 8 by omega) with e | e | e | e | e | e | e | e | e <;> subst e <;> omega
theorem umX6_reach {a : Nat} {K : KT} {n : Int} {b : Int → Int} {h : HS} (w : mSt a K b h) {p j : Int} (hp : 0 ≤ p ∧ p / 2 < 6) (hj : 0 ≤ j ∧ j < K.1 (p / 2)) (g : gd K n b) : fX6_reach p j h = some (K.2.2.2 (p / 2 * 8 + j)) := by
  obtain ⟨c1, c2⟩ := g.2.2.1 (p / 2) (by omega) (by omega)
  obtain ⟨w1, w2, w3⟩ := w.2.2 (p / 2) j (by omega) (by omega) hj.1 hj.2
  unfold fX6_reach
  rw [if_pos (by omega), if_pos (by omega), w3]
theorem umX6_target {a : Nat} {K : KT} {n : Int} {b : Int → Int} {h : HS} (g : gd K n b) (w : mSt a K b h) {f p j m : Int} (hf : 0 ≤ f ∧ f < 64) (hp : 0 ≤ p ∧ p / 2 < 6) (hj : 0 ≤ j ∧ j < K.1 (p / 2)) (hm : 0 ≤ m ∧ m ≤ 8) : fX6_target f p j m h = some (if 0 ≤ f % 8 + m * K.2.1 (p / 2 * 8 + j) ∧ f % 8 + m * K.2.1 (p / 2 * 8 + j) < 8 ∧ 0 ≤ f / 8 + m * sdY p (K.2.2.1 (p / 2 * 8 + j)) ∧ f / 8 + m * sdY p (K.2.2.1 (p / 2 * 8 + j)) < 8 then (f / 8 + m * sdY p (K.2.2.1 (p / 2 * 8 + j))) * 8 + (f % 8 + m * K.2.1 (p / 2 * 8 + j)) else -1) := by
  obtain ⟨c1, c2⟩ := g.2.2.1 (p / 2) (by omega) (by omega)
  obtain ⟨w1, w2, w3⟩ := w.2.2 (p / 2) j (by omega) (by omega) hj.1 hj.2
  obtain ⟨r1, r2, r3, r4⟩ := g.2.2.2 (p / 2) j (by omega) (by omega) hj.1 hj.2
  have y0 := sdY_bd (p := p) r2
  have bx := mul_bd hm r1
  have by_ := mul_bd hm y0
  unfold fX6_target
  rw [if_pos (by omega), if_pos (by omega), if_pos (by omega), if_pos (by omega), if_pos (by omega), wr_of (z := p % 2) (by omega) (by omega), w1, w2]
  have q1 : 0 ≤ 3 * (8 * (p / 2) + j) + 1 ∧ 3 * (8 * (p / 2) + j) + 1 < 144 := by omega
  simp only [if_pos q1]
  have key : ∀ y : Int, (-24 ≤ m * y ∧ m * y ≤ 24) → fX6_target_b63 (f % 8 + m * K.2.1 (p / 2 * 8 + j)) (f / 8) m y h = some (if 0 ≤ f % 8 + m * K.2.1 (p / 2 * 8 + j) ∧ f % 8 + m * K.2.1 (p / 2 * 8 + j) < 8 ∧ 0 ≤ f / 8 + m * y ∧ f / 8 + m * y < 8 then (f / 8 + m * y) * 8 + (f % 8 + m * K.2.1 (p / 2 * 8 + j)) else -1) := by
    intro y hy
    unfold fX6_target_b63
    rw [pX6_isIn (by unfold zr; omega) (by unfold zr; omega) (by unfold zr; omega), pX6_isIn (by unfold zr; omega) (by unfold zr; omega) (by unfold zr; omega), Option.bind_some, Option.bind_some]
    by_cases k1 : 0 ≤ f % 8 + m * K.2.1 (p / 2 * 8 + j) ∧ f % 8 + m * K.2.1 (p / 2 * 8 + j) ≤ 7
    · rw [if_pos k1, if_neg (show ¬ wr 1 = 0 by decide)]
      by_cases k2 : 0 ≤ f / 8 + m * y ∧ f / 8 + m * y ≤ 7
      · rw [if_pos k2, if_neg (show ¬ wr 1 = 0 by decide), if_pos (by omega), Int.mul_comm 8]
      · rw [if_neg k2, if_pos wr_0, if_neg (by omega)]
    · rw [if_neg k1, if_pos wr_0, if_neg (by omega)]
  unfold sdY at y0 by_ ⊢
  by_cases e : p % 2 = 0
  · simp only [if_pos e] at y0 by_ ⊢
    exact key _ by_
  · simp only [if_neg e] at y0 by_ ⊢
    exact key _ by_
theorem chk_swap {K : KT} {b : Int → Int} {sd : Int} : exB (fun t => decide (b t = sd) && exB (fun f => decide (sdOf (b f) = 1 - sd) && hit K b f t) 64 0) 64 0 = chk K b sd := by
  unfold chk
  rw [Bool.eq_iff_iff, exB_iff, exB_iff]
  constructor
  · rintro ⟨t, t1, t2, t3⟩
    rw [Bool.and_eq_true, exB_iff] at t3
    obtain ⟨t4, f, f1, f2, f3⟩ := t3
    rw [Bool.and_eq_true] at f3
    refine ⟨f, f1, f2, ?_⟩
    rw [Bool.and_eq_true, exB_iff]
    exact ⟨f3.1, t, t1, t2, by rw [Bool.and_eq_true]; exact ⟨t4, f3.2⟩⟩
  · rintro ⟨f, f1, f2, f3⟩
    rw [Bool.and_eq_true, exB_iff] at f3
    obtain ⟨f4, t, t1, t2, t3⟩ := f3
    rw [Bool.and_eq_true] at t3
    refine ⟨t, t1, t2, ?_⟩
    rw [Bool.and_eq_true, exB_iff]
    exact ⟨t3.1, f, f1, f2, by rw [Bool.and_eq_true]; exact ⟨f4, t3.2⟩⟩
end ZREF
