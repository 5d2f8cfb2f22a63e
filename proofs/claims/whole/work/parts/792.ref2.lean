section ZREF2
theorem mX6_stop_t (k24 : Int → Int → Int → Int → HS → Option Int) {f t p j m : Int} {nf : Nat} {h : HS} {v : Int} (hv : fX6_reach p j h = some v) : fX6_reaches_t_L44 k24 (nf + 1) f t p j 0 m h = k24 f t p (j + 1) h := by
  rw [fX6_reaches_t_L44]
  unfold fX6_reaches_t_b110
  rw [hv, Option.bind_some, if_pos wr_0, ite_self]
theorem mX6_ray_t {K : KT} {n : Int} {b : Int → Int} {h : HS} (g : gd K n b) (w : mSt 36 K b h) (k24 : Int → Int → Int → Int → HS → Option Int) {f t p : Int} (hf : 0 ≤ f ∧ f < 64) (ht : 0 ≤ t ∧ t < 64) (hp : 0 ≤ p ∧ p / 2 < 6) {j : Nat} (hj : (j : Int) < K.1 (p / 2)) : ∀ (nf m : Nat), 1 ≤ m → m ≤ 8 → 9 - m < nf → fX6_reaches_t_L44 k24 nf f t p (j : Int) 1 (m : Int) h = if ray b t (K.2.1 (p / 2 * 8 + j)) (sdY p (K.2.2.1 (p / 2 * 8 + j))) (K.2.2.2 (p / 2 * 8 + j) + 1 - m).toNat (f % 8 + m * K.2.1 (p / 2 * 8 + j)) (f / 8 + m * sdY p (K.2.2.1 (p / 2 * 8 + j))) = true then some 1 else k24 f t p ((j : Int) + 1) h
  | 0, m, h1, h2, h3 => by omega
  | nf + 1, m, h1, h2, h3 => by
    obtain ⟨r1, r2, r3, r4⟩ := g.2.2.2 (p / 2) (j : Int) (by omega) (by omega) (by omega) hj
    have y0 := sdY_bd (p := p) r2
    have er := umX6_reach w (p := p) (j := (j : Int)) (by omega) ⟨by omega, hj⟩ g
    have et := umX6_target g w (f := f) (p := p) (j := (j : Int)) (m := (m : Int)) hf hp ⟨by omega, hj⟩ (by omega)
    have bx := mul_bd (m := (m : Int)) (s := K.2.1 (p / 2 * 8 + j)) (by omega) r1
    have by_ := mul_bd (m := (m : Int)) (s := sdY p (K.2.2.1 (p / 2 * 8 + j))) (by omega) y0
    rw [fX6_reaches_t_L44]
    unfold fX6_reaches_t_b110 fX6_reaches_t_b101 fX6_reaches_t_b102
    rw [er, et, Option.bind_some, Option.bind_some, wr_of (z := K.2.2.2 (p / 2 * 8 + j)) (by omega) (by omega), wr_of (z := (m : Int)) (by omega) (by omega)]
    by_cases hm : K.2.2.2 (p / 2 * 8 + j) < (m : Int)
    · rw [if_pos hm, show (K.2.2.2 (p / 2 * 8 + j) + 1 - (m : Int)).toNat = 0 by omega, if_neg (show ¬ ray b t _ _ 0 _ _ = true by simp [ray])]
    · rw [if_neg hm, if_neg (show ¬ wr 1 = 0 by decide)]
      have en : (K.2.2.2 (p / 2 * 8 + j) + 1 - (m : Int)).toNat = (K.2.2.2 (p / 2 * 8 + j) + 1 - ((m + 1 : Nat) : Int)).toNat + 1 := by omega
      have ih := mX6_ray_t g w k24 hf ht hp hj nf (m + 1) (by omega) (by omega) (by omega)
      have ex : ∀ s : Int, ((m + 1 : Nat) : Int) * s = m * s + s := fun s => by rw [Int.natCast_add, Int.add_mul, show ((1 : Nat) : Int) * s = s from Int.one_mul s]
      rw [ex, ex, ← Int.add_assoc, ← Int.add_assoc] at ih
      obtain ⟨m2, rfl⟩ : ∃ m2, nf = m2 + 1 := ⟨nf - 1, by omega⟩
      have em : (m : Int) + 1 = ((m + 1 : Nat) : Int) := by omega
      rw [en, em]
      obtain ⟨X, eX⟩ : ∃ X, X = f % 8 + m * K.2.1 (p / 2 * 8 + j) := ⟨_, rfl⟩
      obtain ⟨Y, eY⟩ : ∃ Y, Y = f / 8 + m * sdY p (K.2.2.1 (p / 2 * 8 + j)) := ⟨_, rfl⟩
      rw [← eX, ← eY] at ih ⊢
      have e0 : ray b t (K.2.1 (p / 2 * 8 + j)) (sdY p (K.2.2.1 (p / 2 * 8 + j))) ((K.2.2.2 (p / 2 * 8 + j) + 1 - ((m + 1 : Nat) : Int)).toNat + 1) X Y = if 0 ≤ X ∧ X < 8 ∧ 0 ≤ Y ∧ Y < 8 then (if Y * 8 + X = t then true else if b (Y * 8 + X) = -1 then ray b t (K.2.1 (p / 2 * 8 + j)) (sdY p (K.2.2.1 (p / 2 * 8 + j))) ((K.2.2.2 (p / 2 * 8 + j) + 1 - ((m + 1 : Nat) : Int)).toNat) (X + K.2.1 (p / 2 * 8 + j)) (Y + sdY p (K.2.2.1 (p / 2 * 8 + j))) else false) else false := rfl
      rw [e0]
      by_cases hon : 0 ≤ X ∧ X < 8 ∧ 0 ≤ Y ∧ Y < 8
      · have q0 : 0 ≤ Y * 8 + X ∧ Y * 8 + X < 64 := by omega
        obtain ⟨v1, v2⟩ := g.2.1 _ q0.1 q0.2
        have n0 := g.1
        rw [if_pos hon, if_pos hon, wr_of (z := Y * 8 + X) (by omega) (by omega), wr_of (z := t) (by omega) (by omega)]
        by_cases hq : Y * 8 + X = t
        · rw [if_pos hq, if_pos hq, if_pos rfl]
        · rw [if_neg hq, if_neg hq, if_neg (by omega), if_pos q0, w.1 _ q0.1 q0.2, wr_of (z := b (Y * 8 + X)) (by omega) (by omega)]
          by_cases hv : b (Y * 8 + X) = -1
          · rw [if_pos hv, if_pos hv]
            exact ih
          · rw [if_neg hv, if_neg hv, if_neg (show ¬ false = true by decide)]
            exact mX6_stop_t k24 er
      · rw [if_neg hon, if_neg hon, wr_of (z := (-1 : Int)) (by omega) (by omega), wr_of (z := t) (by omega) (by omega), if_neg (show ¬ (-1 : Int) = t by omega), if_pos rfl, if_neg (show ¬ false = true by decide)]
        exact mX6_stop_t k24 er
theorem mX6_steps_t {K : KT} {n : Int} {b : Int → Int} {h : HS} (g : gd K n b) (w : mSt 36 K b h) {f t : Int} (hf : 0 ≤ f ∧ f < 64) (ht : 0 ≤ t ∧ t < 64) (hb : 0 ≤ b f) : ∀ (nf j : Nat), j ≤ (K.1 (b f / 2)).toNat → (K.1 (b f / 2)).toNat - j < nf → fX6_reaches_t_L24 nf f t (b f) (j : Int) h = some (if exB (hitS K b f t) ((K.1 (b f / 2)).toNat - j) j = true then 1 else 0)
  | 0, j, h1, h2 => by omega
  | nf + 1, j, h1, h2 => by
    have n0 := g.1
    obtain ⟨v1, v2⟩ := g.2.1 f hf.1 hf.2
    obtain ⟨c1, c2⟩ := g.2.2.1 (b f / 2) (by omega) (by omega)
    rw [fX6_reaches_t_L24]
    rw [if_pos (by omega), if_pos (by omega), w.2.1 (b f / 2) (by omega) (by omega), wr_of (z := K.1 (b f / 2)) (by omega) (by omega), wr_of (z := (j : Int)) (by omega) (by omega)]
    by_cases hj : K.1 (b f / 2) ≤ (j : Int)
    · rw [if_pos hj, show (K.1 (b f / 2)).toNat - j = 0 by omega]
      rfl
    · have e1 := mX6_ray_t g w (fun a0 a1 a2 a3 hh => fX6_reaches_t_L24 nf a0 a1 a2 a3 hh) hf ht (p := b f) (by omega) (j := j) (by omega) zF 1 (by omega) (by omega) (by unfold zF; omega)
      rw [show ((1 : Nat) : Int) = 1 from rfl, Int.one_mul, Int.one_mul, Int.add_sub_cancel] at e1
      rw [if_neg hj, e1]
      have e2 : exB (hitS K b f t) ((K.1 (b f / 2)).toNat - j) j = (hitS K b f t j || exB (hitS K b f t) ((K.1 (b f / 2)).toNat - (j + 1)) (j + 1)) := by
        rw [show (K.1 (b f / 2)).toNat - j = ((K.1 (b f / 2)).toNat - (j + 1)) + 1 by omega]
        rfl
      rw [e2]
      have e3 : hitS K b f t j = ray b t (K.2.1 (b f / 2 * 8 + j)) (sdY (b f) (K.2.2.1 (b f / 2 * 8 + j))) (K.2.2.2 (b f / 2 * 8 + j)).toNat (f % 8 + K.2.1 (b f / 2 * 8 + j)) (f / 8 + sdY (b f) (K.2.2.1 (b f / 2 * 8 + j))) := rfl
      rw [← e3]
      cases hitS K b f t j
      · rw [if_neg (by decide), Bool.false_or]
        have ih := mX6_steps_t g w hf ht hb nf (j + 1) (by omega) (by omega)
        rw [Int.natCast_add] at ih
        exact ih
      · rfl
theorem umX6_reaches_t {K : KT} {n : Int} {b : Int → Int} {h : HS} (g : gd K n b) (w : mSt 36 K b h) {f t : Int} (hf : 0 ≤ f ∧ f < 64) (ht : 0 ≤ t ∧ t < 64) (hb : 0 ≤ b f) : fX6_reaches_t f t h = some (if hit K b f t = true then 1 else 0) := by
  have n0 := g.1
  obtain ⟨v1, v2⟩ := g.2.1 f hf.1 hf.2
  obtain ⟨u1, u2⟩ := g.2.1 t ht.1 ht.2
  have hs := sdOf_01 hb
  have hr := sdOf_rg u1
  obtain ⟨c1, c2⟩ := g.2.2.1 (b f / 2) (by omega) (by omega)
  have e := mX6_steps_t g w hf ht hb zF 0 (by omega) (by unfold zF; omega)
  unfold fX6_reaches_t
  rw [if_pos hf, if_pos ht, w.1 f hf.1 hf.2, w.1 t ht.1 ht.2, mX6_side (by omega), mX6_side (by omega), Option.bind_some, Option.bind_some, wr_of (z := sdOf (b t)) (by omega) (by omega), wr_of (z := sdOf (b f)) (by omega) (by omega)]
  unfold hit
  by_cases hq : sdOf (b t) = sdOf (b f)
  · rw [if_pos hq, decide_eq_false (fun e => e hq)]
    rfl
  · rw [if_neg hq, decide_eq_true hq, Bool.true_and]
    exact e
theorem mX6_chkI_t {K : KT} {n : Int} {b : Int → Int} {h : HS} (g : gd K n b) (w : mSt 36 K b h) (k2 : Int → Int → HS → Option Int) {sd t : Int} (hsd : sd = 0 ∨ sd = 1) (ht : 0 ≤ t ∧ t < 64) : ∀ (nf j : Nat), j ≤ 64 → 64 - j < nf → fX6_isChecked_t_L21 k2 nf sd t (j : Int) h = if exB (fun f => decide (sdOf (b f) = 1 - sd) && hit K b f t) (64 - j) j = true then some 1 else k2 sd (t + 1) h
  | 0, j, h1, h2 => by omega
  | nf + 1, j, h1, h2 => by
    have n0 := g.1
    rw [fX6_isChecked_t_L21]
    unfold fX6_isChecked_t_b60 fX6_isChecked_t_b54
    rw [wr_of (z := (j : Int)) (by omega) (by omega)]
    by_cases hj : (64 : Int) ≤ (j : Int)
    · rw [if_pos hj, exB_end (by omega), if_neg (by decide)]
    · obtain ⟨v1, v2⟩ := g.2.1 (j : Int) (by omega) (by omega)
      have hr := sdOf_rg v1
      have ih := mX6_chkI_t g w k2 hsd ht nf (j + 1) (by omega) (by omega)
      have ej : (j : Int) + 1 = ((j + 1 : Nat) : Int) := by omega
      rw [if_neg hj, if_pos (by omega), w.1 (j : Int) (by omega) (by omega), mX6_side (by omega), Option.bind_some, wr_of (z := sdOf (b j)) (by omega) (by omega), wr_of (z := 1 - sd) (by omega) (by omega), exB_64 (by omega), ej]
      by_cases hq : sdOf (b j) = 1 - sd
      · have hb : 0 ≤ b j := by
          rcases (show b j = -1 ∨ 0 ≤ b j by omega) with e | e
          · rw [e, sdOf_m] at hq; omega
          · exact e
        rw [if_pos hq, umX6_reaches_t g w (by omega) ht hb, Option.bind_some, decide_eq_true hq, Bool.true_and]
        cases hh : hit K b j t
        · rw [if_neg (show ¬ false = true by decide), if_pos wr_0, Bool.false_or]
          exact ih
        · rw [if_pos rfl, if_neg (show ¬ wr 1 = 0 by decide), Bool.true_or, if_pos rfl]
      · rw [if_neg hq, decide_eq_false hq, Bool.false_and, Bool.false_or]
        exact ih
theorem mX6_chkO_t {K : KT} {n : Int} {b : Int → Int} {h : HS} (g : gd K n b) (w : mSt 36 K b h) {sd : Int} (hsd : sd = 0 ∨ sd = 1) : ∀ (nf j : Nat), j ≤ 64 → 64 - j < nf → fX6_isChecked_t_L2 nf sd (j : Int) h = some (if exB (fun t => decide (b t = sd) && exB (fun f => decide (sdOf (b f) = 1 - sd) && hit K b f t) 64 0) (64 - j) j = true then 1 else 0)
  | 0, j, h1, h2 => by omega
  | nf + 1, j, h1, h2 => by
    have n0 := g.1
    rw [fX6_isChecked_t_L2]
    unfold fX6_isChecked_t_b60
    rw [wr_of (z := (j : Int)) (by omega) (by omega)]
    by_cases hj : (64 : Int) ≤ (j : Int)
    · rw [if_pos hj, exB_end (by omega)]
      rfl
    · obtain ⟨v1, v2⟩ := g.2.1 (j : Int) (by omega) (by omega)
      have ih := mX6_chkO_t g w hsd nf (j + 1) (by omega) (by omega)
      have ej : (j : Int) + 1 = ((j + 1 : Nat) : Int) := by omega
      have e1 := mX6_chkI_t g w (fun a0 a1 hh => fX6_isChecked_t_L2 nf a0 a1 hh) hsd (t := (j : Int)) (by omega) zF 0 (by omega) (by unfold zF; omega)
      rw [if_neg hj, if_pos (by omega), w.1 (j : Int) (by omega) (by omega), wr_of (z := b j) (by omega) (by omega), wr_of (z := sd) (by omega) (by omega), exB_64 (by omega), ej]
      by_cases hq : b j = sd
      · rw [if_pos hq, decide_eq_true hq, Bool.true_and, show (0 : Int) = ((0 : Nat) : Int) from rfl, e1, show 64 - 0 = 64 from rfl]
        cases exB (fun f => decide (sdOf (b f) = 1 - sd) && hit K b f j) 64 0
        · rw [if_neg (by decide), Bool.false_or, ej]
          exact ih
        · rw [if_pos rfl, Bool.true_or, if_pos rfl]
      · rw [if_neg hq, decide_eq_false hq, Bool.false_and, Bool.false_or]
        exact ih
theorem mX6_check_t {K : KT} {n : Int} {b : Int → Int} {h : HS} (g : gd K n b) (w : mSt 36 K b h) {sd : Int} (hsd : sd = 0 ∨ sd = 1) : fX6_isChecked_t sd h = some (if chk K b sd = true then 1 else 0) := by
  have e := mX6_chkO_t g w hsd zF 0 (by omega) (by unfold zF; omega)
  rw [show 64 - 0 = 64 from rfl, chk_swap] at e
  exact e
end ZREF2
