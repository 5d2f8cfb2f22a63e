section ZCLS1
/-! the class: what a piece reaches -/
theorem cX0_ray {K : KT} {n : Int} {b : Int → Int} {h : HS} (g : gd K n b) (c : cSt K n b h) (k73 : Int → Int → Int → Int64 → Int → HS → Option Int64) {f sd e st dx dy : Int} (hsd : sd = 0 ∨ sd = 1) (hdx : -3 ≤ dx ∧ dx ≤ 3) (hdy : -3 ≤ dy ∧ dy ≤ 3) : ∀ (nf m : Nat) (acc : Int64) (x y : Int), m < nf → m ≤ 7 → (-3 ≤ x ∧ x ≤ 10) → (-3 ≤ y ∧ y ≤ 10) → ∃ r, fX0_reachedFrom_L152 k73 nf f sd e acc st dx dy x y (m : Int) h = k73 f sd e r (st + 1) h ∧ ∀ t : Nat, t < 64 → (bi r t = true ↔ (bi acc t = true ∨ (sdOf (b t) ≠ sd ∧ ray b t dx dy m x y = true)))
  | 0, m, acc, x, y, h1, h2, h3, h4 => by omega
  | nf + 1, m, acc, x, y, h1, h2, h3, h4 => by
    rw [fX0_reachedFrom_L152]
    unfold fX0_reachedFrom_b256 fX0_reachedFrom_b214 fX0_reachedFrom_b223 fX0_reachedFrom_b237
    rw [wr_of (z := (m : Int)) (by omega) (by omega), wr_of (z := x) (by omega) (by omega), wr_of (z := y) (by omega) (by omega)]
    cases m with
    | zero =>
      rw [if_pos (by omega)]
      exact ⟨acc, rfl, fun t ht => by simp [ray]⟩
    | succ m =>
      rw [if_neg (by omega)]
      by_cases hon : 0 ≤ x ∧ x < 8 ∧ 0 ≤ y ∧ y < 8
      · have q0 : 0 ≤ y * 8 + x ∧ y * 8 + x < 64 := by omega
        obtain ⟨v1, v2⟩ := g.2.1 _ q0.1 q0.2
        have n0 := g.1
        have er : ∀ t : Nat, ray b (t : Int) dx dy (m + 1) x y = if y * 8 + x = (t : Int) then true else if b (y * 8 + x) = -1 then ray b t dx dy m (x + dx) (y + dy) else false := fun t => by
          show (if 0 ≤ x ∧ x < 8 ∧ 0 ≤ y ∧ y < 8 then _ else _) = _
          rw [if_pos hon]
        have em : ((m + 1 : Nat) : Int) - 1 = (m : Int) := by omega
        rw [if_neg (by omega), if_neg (by omega), if_neg (by omega), if_neg (by omega), if_pos q0, c.2.1 _ q0.1 q0.2, wr_of (z := b (y * 8 + x)) (by omega) (by omega), em]
        by_cases hv : b (y * 8 + x) = -1
        · rw [if_pos hv, if_pos hv]
          obtain ⟨r, e1, e2⟩ := cX0_ray g c k73 (f := f) (e := e) (st := st) hsd hdx hdy nf m (acc ||| zshl (Int64.ofNat 1) (y * 8 + x)) (x + dx) (y + dy) (by omega) (by omega) (by omega) (by omega)
          refine ⟨r, e1, fun t ht => ?_⟩
          rw [e2 t ht, bi_or, bi_shl q0 ht, er t, if_pos hv]
          by_cases hq : y * 8 + x = (t : Int)
          · rw [if_pos hq, decide_eq_true hq.symm, Bool.or_true]
            have hn : sdOf (b t) ≠ sd := by rw [← hq, hv, sdOf_m]; omega
            exact ⟨fun _ => Or.inr ⟨hn, rfl⟩, fun _ => Or.inl rfl⟩
          · rw [if_neg hq, decide_eq_false (fun e => hq e.symm), Bool.or_false]
        · have v0 : 0 ≤ b (y * 8 + x) := by omega
          rw [if_neg hv, if_pos (by omega), wr_of (z := b (y * 8 + x) % 2) (by omega) (by omega), wr_of (z := sd) (by omega) (by omega), if_neg hv]
          by_cases hs2 : b (y * 8 + x) % 2 = sd
          · rw [if_pos hs2]
            obtain ⟨r, e1, e2⟩ := cX0_ray g c k73 (f := f) (e := e) (st := st) hsd hdx hdy nf 0 acc (x + dx) (y + dy) (by omega) (by omega) (by omega) (by omega)
            refine ⟨r, e1, fun t ht => ?_⟩
            rw [e2 t ht, er t, if_neg hv]
            by_cases hq : y * 8 + x = (t : Int)
            · have hn : sdOf (b t) = sd := by rw [← hq, (sdOf_01 v0).1, hs2]
              simp [hq, hn, ray]
            · simp [hq, ray]
          · rw [if_neg hs2, if_neg hv]
            obtain ⟨r, e1, e2⟩ := cX0_ray g c k73 (f := f) (e := e) (st := st) hsd hdx hdy nf 0 (acc ||| zshl (Int64.ofNat 1) (y * 8 + x)) (x + dx) (y + dy) (by omega) (by omega) (by omega) (by omega)
            refine ⟨r, e1, fun t ht => ?_⟩
            rw [e2 t ht, bi_or, bi_shl q0 ht, er t, if_neg hv]
            by_cases hq : y * 8 + x = (t : Int)
            · have hn : sdOf (b t) ≠ sd := by rw [← hq, (sdOf_01 v0).1]; exact hs2
              rw [if_pos hq, decide_eq_true hq.symm, Bool.or_true]
              exact ⟨fun _ => Or.inr ⟨hn, rfl⟩, fun _ => Or.inl rfl⟩
            · have hq2 : ¬ (t : Int) = y * 8 + x := fun e => hq e.symm
              simp [hq, hq2, ray]
      · have er : ∀ t : Nat, ray b (t : Int) dx dy (m + 1) x y = false := fun t => by
          show (if 0 ≤ x ∧ x < 8 ∧ 0 ≤ y ∧ y < 8 then _ else _) = _
          rw [if_neg hon]
        refine ⟨acc, ?_, fun t ht => by rw [er t]; simp⟩
        by_cases k1 : x < 0
        · rw [if_pos k1]
        · rw [if_neg k1]
          by_cases k2 : 8 ≤ x
          · rw [if_pos k2]
          · rw [if_neg k2]
            by_cases k3 : y < 0
            · rw [if_pos k3]
            · rw [if_neg k3, if_pos (by omega)]
theorem cX0_steps {K : KT} {n : Int} {b : Int → Int} {h : HS} (g : gd K n b) (c : cSt K n b h) {f : Int} (hf : 0 ≤ f ∧ f < 64) (hb : 0 ≤ b f) : ∀ (nf j : Nat) (acc : Int64), (j : Int) ≤ K.1 (b f / 2) → (K.1 (b f / 2)).toNat - j < nf → ∃ r, fX0_reachedFrom_L73 nf f (b f % 2) (b f / 2 * 8 + K.1 (b f / 2)) acc (b f / 2 * 8 + (j : Int)) h = some r ∧ ∀ t : Nat, t < 64 → (bi r t = true ↔ (bi acc t = true ∨ (sdOf (b t) ≠ b f % 2 ∧ ∃ i, j ≤ i ∧ (i : Int) < K.1 (b f / 2) ∧ hitS K b f t i = true)))
  | 0, j, acc, h1, h2 => by omega
  | nf + 1, j, acc, h1, h2 => by
    have n0 := g.1
    obtain ⟨v1, v2⟩ := g.2.1 f hf.1 hf.2
    obtain ⟨c1, c2⟩ := g.2.2.1 (b f / 2) (by omega) (by omega)
    rw [fX0_reachedFrom_L73]
    unfold fX0_reachedFrom_b120
    rw [wr_of (z := b f / 2 * 8 + K.1 (b f / 2)) (by omega) (by omega), wr_of (z := b f / 2 * 8 + (j : Int)) (by omega) (by omega), wr_of (z := b f % 2) (by omega) (by omega)]
    by_cases hj : K.1 (b f / 2) ≤ (j : Int)
    · rw [if_pos (by omega)]
      refine ⟨acc, rfl, fun t ht => ⟨Or.inl, fun e => ?_⟩⟩
      rcases e with e | ⟨e1, i, i1, i2, i3⟩
      · exact e
      · omega
    · obtain ⟨s1, s2, s3⟩ := c.2.2.2 (b f / 2) (j : Int) (by omega) (by omega) (by omega) (by omega)
      obtain ⟨r1, r2, r3⟩ := g.2.2.2 (b f / 2) (j : Int) (by omega) (by omega) (by omega) (by omega)
      have q0 : 0 ≤ b f / 2 * 8 + (j : Int) ∧ b f / 2 * 8 + (j : Int) < 48 := by omega
      have f0 : 0 ≤ f ∧ f < 2147483648 := by omega
      have y0 : -3 ≤ sdY (b f) (K.2.2.1 (b f / 2 * 8 + (j : Int))) ∧ sdY (b f) (K.2.2.1 (b f / 2 * 8 + (j : Int))) ≤ 3 := by
        unfold sdY
        by_cases e : b f % 2 = 0
        · rw [if_pos e]; omega
        · rw [if_neg e]; omega
      have en : (((K.2.2.2 (b f / 2 * 8 + (j : Int))).toNat : Nat) : Int) = K.2.2.2 (b f / 2 * 8 + (j : Int)) := Int.toNat_of_nonneg (by omega)
      obtain ⟨r, e1, e2⟩ := cX0_ray g c (fun a0 a1 a2 a3 a4 hh => fX0_reachedFrom_L73 nf a0 a1 a2 a3 a4 hh) (f := f) (sd := b f % 2) (e := b f / 2 * 8 + K.1 (b f / 2)) (st := b f / 2 * 8 + (j : Int)) (by omega) r1 y0 zF (K.2.2.2 (b f / 2 * 8 + (j : Int))).toNat acc (f % 8 + K.2.1 (b f / 2 * 8 + (j : Int))) (f / 8 + sdY (b f) (K.2.2.1 (b f / 2 * 8 + (j : Int)))) (by unfold zF; omega) (by omega) (by omega) (by omega)
      rw [en] at e1
      obtain ⟨r4, e3, e4⟩ := cX0_steps g c hf hb nf (j + 1) r (by omega) (by omega)
      have ej : b f / 2 * 8 + (j : Int) + 1 = b f / 2 * 8 + ((j + 1 : Nat) : Int) := by omega
      refine ⟨r4, ?_, fun t ht => ?_⟩
      · rw [if_neg (by omega)]
        simp only [if_pos q0, if_pos f0, s1, s2, s3]
        have ey : (if b f % 2 = 0 then fX0_reachedFrom_L152 (fun a0 a1 a2 a3 a4 hh => fX0_reachedFrom_L73 nf a0 a1 a2 a3 a4 hh) zF f (b f % 2) (b f / 2 * 8 + K.1 (b f / 2)) acc (b f / 2 * 8 + (j : Int)) (K.2.1 (b f / 2 * 8 + (j : Int))) (K.2.2.1 (b f / 2 * 8 + (j : Int))) (f % 8 + K.2.1 (b f / 2 * 8 + (j : Int))) (f / 8 + K.2.2.1 (b f / 2 * 8 + (j : Int))) (K.2.2.2 (b f / 2 * 8 + (j : Int))) h else fX0_reachedFrom_L152 (fun a0 a1 a2 a3 a4 hh => fX0_reachedFrom_L73 nf a0 a1 a2 a3 a4 hh) zF f (b f % 2) (b f / 2 * 8 + K.1 (b f / 2)) acc (b f / 2 * 8 + (j : Int)) (K.2.1 (b f / 2 * 8 + (j : Int))) (-K.2.2.1 (b f / 2 * 8 + (j : Int))) (f % 8 + K.2.1 (b f / 2 * 8 + (j : Int))) (f / 8 + -K.2.2.1 (b f / 2 * 8 + (j : Int))) (K.2.2.2 (b f / 2 * 8 + (j : Int))) h) = some r4 := by
          unfold sdY at e1
          by_cases e : b f % 2 = 0
          · rw [if_pos e] at e1 ⊢
            rw [e1, ej]
            exact e3
          · rw [if_neg e] at e1 ⊢
            rw [e1, ej]
            exact e3
        exact ey
      · rw [e4 t ht, e2 t ht]
        constructor
        · rintro ((k1 | ⟨k1, k2⟩) | ⟨k1, i, i1, i2, i3⟩)
          · exact Or.inl k1
          · exact Or.inr ⟨k1, j, Nat.le_refl _, by omega, k2⟩
          · exact Or.inr ⟨k1, i, by omega, i2, i3⟩
        · rintro (k1 | ⟨k1, i, i1, i2, i3⟩)
          · exact Or.inl (Or.inl k1)
          · rcases Nat.lt_or_ge j i with k | k
            · exact Or.inr ⟨k1, i, by omega, i2, i3⟩
            · have e : i = j := by omega
              subst e
              exact Or.inl (Or.inr ⟨k1, i3⟩)
theorem cX0_from {K : KT} {n : Int} {b : Int → Int} {h : HS} (g : gd K n b) (c : cSt K n b h) {f : Int} (hf : 0 ≤ f ∧ f < 64) (hb : 0 ≤ b f) : ∃ r, fX0_reachedFrom f h = some r ∧ ∀ t : Nat, t < 64 → (bi r t = true ↔ hit K b f t = true) := by
  have n0 := g.1
  obtain ⟨v1, v2⟩ := g.2.1 f hf.1 hf.2
  obtain ⟨c1, c2⟩ := g.2.2.1 (b f / 2) (by omega) (by omega)
  obtain ⟨r, e1, e2⟩ := cX0_steps g c hf hb zF 0 (Int64.ofNat 0) (by omega) (by unfold zF; omega)
  refine ⟨r, ?_, fun t ht => ?_⟩
  · unfold fX0_reachedFrom
    rw [wr_of (z := f) (by omega) (by omega), if_neg (by omega), if_pos hf.2, if_pos hf, c.2.1 f hf.1 hf.2, c.1, wr_of (z := b f) (by omega) (by omega), if_neg (by omega), if_pos (by omega), wr_of (z := b f / 2) (by omega) (by omega), wr_of (z := n) (by omega) (by omega), if_pos (by omega), if_pos (by omega), if_pos (by omega), if_pos (by omega), if_pos (by omega), c.2.2.1 (b f / 2) (by omega) (by omega)]
    rw [show b f / 2 * 8 + ((0 : Nat) : Int) = b f / 2 * 8 by omega] at e1
    exact e1
  · rw [e2 t ht, bi_zero]
    unfold hit
    rw [Bool.and_eq_true, decide_eq_true_iff, exB_iff, (sdOf_01 hb).1]
    constructor
    · rintro (k | ⟨k1, i, i1, i2, i3⟩)
      · exact absurd k (by decide)
      · exact ⟨k1, i, i1, by omega, i3⟩
    · rintro ⟨k1, i, i1, i2, i3⟩
      exact Or.inr ⟨k1, i, i1, by omega, i3⟩
theorem ucX0_reaches {K : KT} {n : Int} {b : Int → Int} {h : HS} (g : gd K n b) (c : cSt K n b h) {f t : Int} (hf : 0 ≤ f ∧ f < 64) (hb : 0 ≤ b f) (ht : 0 ≤ t ∧ t < 64) : fX0_reaches f t h = some (if hit K b f t = true then 1 else 0) := by
  obtain ⟨r, e1, e2⟩ := cX0_from g c hf hb
  unfold fX0_reaches
  rw [fX5_isSq (by unfold zr; omega), Option.bind_some, if_pos ht, if_neg (show ¬ wr 1 = 0 by decide), e1, Option.bind_some]
  have e3 := e2 t.toNat (by omega)
  rw [Int.toNat_of_nonneg ht.1] at e3
  by_cases hh : hit K b f t = true
  · rw [if_pos hh, if_neg]
    rw [zbit ht, e3.mpr hh]
    decide
  · rw [if_neg hh, if_pos]
    rw [zbit ht]
    cases hb2 : bi r t.toNat
    · rfl
    · exact absurd (e3.mp hb2) hh
end ZCLS1
