section ZJUDGE
/-! a word read as a move: the error, and the two squares -/
def kiF (L : Int → Int) (x : Int) : Nat → Nat → Int
  | 0, _ => -1
  | m + 1, k => if L (k : Int) = x then (k : Int) else kiF L x m (k + 1)
theorem kiF_rg {L : Int → Int} {x : Int} : ∀ {m k : Nat}, kiF L x m k = -1 ∨ ((k : Int) ≤ kiF L x m k ∧ kiF L x m k < ((k + m : Nat) : Int))
  | 0, k => Or.inl rfl
  | m + 1, k => by
    unfold kiF
    by_cases e : L (k : Int) = x
    · rw [if_pos e]; omega
    · rw [if_neg e]
      have := @kiF_rg L x m (k + 1)
      omega
theorem kiC {x : Int} {h : HS} (w : PcK h) (hx : 0 ≤ x ∧ x ≤ 255) : ∀ (nf j : Nat), (j : Int) ≤ h 1 5 → (h 1 5).toNat - j < nf → fX1_withLetter_L2 nf x (j : Int) h = some (kiF (h 2) x ((h 1 5).toNat - j) j)
  | 0, j, h1, h2 => by omega
  | nf + 1, j, h1, h2 => by
    have n := w.1
    rw [fX1_withLetter_L2]
    rw [wr_of (z := h 1 5) (by omega) (by omega), wr_of (z := (j : Int)) (by omega) (by omega)]
    by_cases hj : h 1 5 ≤ (j : Int)
    · rw [if_pos hj, show (h 1 5).toNat - j = 0 by omega]
      rfl
    · have l := w.2 (j : Int) (by omega) (by omega)
      rw [if_neg hj, if_pos (by omega), wr_of (z := h 2 (j : Int)) (by omega) (by omega), wr_of (z := x) (by omega) (by omega), show (h 1 5).toNat - j = ((h 1 5).toNat - (j + 1)) + 1 by omega]
      show _ = some (if h 2 (j : Int) = x then (j : Int) else kiF (h 2) x ((h 1 5).toNat - (j + 1)) (j + 1))
      by_cases q : h 2 (j : Int) = x
      · rw [if_pos q, if_pos q]
      · rw [if_neg q, if_neg q, show (j : Int) + 1 = ((j + 1 : Nat) : Int) by omega]
        exact kiC w hx nf (j + 1) (by omega) (by omega)
theorem kiR {x : Int} {h g : HS} (w : PsK h) (e1 : g 30 1 = h 1 5) (e31 : g 31 = h 31) (hx : 0 ≤ x ∧ x ≤ 255) : ∀ (nf j : Nat), (j : Int) ≤ h 1 5 → (h 1 5).toNat - j < nf → fX6_kindOf_L2 nf x (j : Int) g = some (kiF (h 2) x ((h 1 5).toNat - j) j)
  | 0, j, h1, h2 => by omega
  | nf + 1, j, h1, h2 => by
    have n := w.n
    rw [fX6_kindOf_L2]
    rw [e1, e31, wr_of (z := h 1 5) (by omega) (by omega), wr_of (z := (j : Int)) (by omega) (by omega)]
    by_cases hj : h 1 5 ≤ (j : Int)
    · rw [if_pos hj, show (h 1 5).toNat - j = 0 by omega]
      rfl
    · have l := w.le (j : Int) (by omega) (by omega)
      rw [if_neg hj, if_pos (by omega), l.1, wr_of (z := h 2 (j : Int)) (by omega) (by omega), wr_of (z := x) (by omega) (by omega), show (h 1 5).toNat - j = ((h 1 5).toNat - (j + 1)) + 1 by omega]
      show _ = some (if h 2 (j : Int) = x then (j : Int) else kiF (h 2) x ((h 1 5).toNat - (j + 1)) (j + 1))
      by_cases q : h 2 (j : Int) = x
      · rw [if_pos q, if_pos q]
      · rw [if_neg q, if_neg q, show (j : Int) + 1 = ((j + 1 : Nat) : Int) by omega]
        exact kiR w e1 e31 hx nf (j + 1) (by omega) (by omega)
def jdF (cnd lg : Nat → Bool) : Nat → Nat → Int × Int × Int → Int × Int × Int
  | 0, _, x => x
  | n + 1, j, x => jdF cnd lg n (j + 1) (if cnd j = true then (if lg j = true then (x.1 + 1, x.2.1 + 1, (j : Int)) else (x.1 + 1, x.2.1, x.2.2)) else x)
theorem jdF_st {cnd lg : Nat → Bool} {j : Nat} {x : Int × Int × Int} (h : j < 64) : jdF cnd lg (64 - j) j x = jdF cnd lg (64 - (j + 1)) (j + 1) (if cnd j = true then (if lg j = true then (x.1 + 1, x.2.1 + 1, (j : Int)) else (x.1 + 1, x.2.1, x.2.2)) else x) := by
  rw [show 64 - j = (64 - (j + 1)) + 1 by omega]
  rfl
theorem jdF_fr {cnd lg : Nat → Bool} : ∀ (n j : Nat) (a c f1 f2 : Int), (jdF cnd lg n j (a, c, f1)).1 = (jdF cnd lg n j (a, c, f2)).1 ∧ (jdF cnd lg n j (a, c, f1)).2.1 = (jdF cnd lg n j (a, c, f2)).2.1 ∧ c ≤ (jdF cnd lg n j (a, c, f1)).2.1 ∧ ((jdF cnd lg n j (a, c, f1)).2.2 = (jdF cnd lg n j (a, c, f2)).2.2 ∨ (jdF cnd lg n j (a, c, f1)).2.1 = c)
  | 0, j, a, c, f1, f2 => ⟨rfl, rfl, Int.le_refl _, Or.inr rfl⟩
  | n + 1, j, a, c, f1, f2 => by
    unfold jdF
    by_cases q1 : cnd j = true
    · by_cases q2 : lg j = true
      · simp only [if_pos q1, if_pos q2]
        obtain ⟨h1, h2, h3, h4⟩ := jdF_fr (cnd := cnd) (lg := lg) n (j + 1) (a + 1) (c + 1) (j : Int) (j : Int)
        exact ⟨trivial, trivial, by omega, Or.inl trivial⟩
      · simp only [if_pos q1, if_neg q2]
        exact jdF_fr n (j + 1) (a + 1) c f1 f2
    · simp only [if_neg q1]
      exact jdF_fr n (j + 1) a c f1 f2
def alw (F : Int → Int) (s : Nat) : Bool := decide ((F 2 = -1 ∨ F 2 = (s : Int) % 8) ∧ (F 3 = -1 ∨ F 3 = (s : Int) / 8))
def jCn (K : KT) (b : Int → Int) (pc : Int) (F : Int → Int) (s : Nat) : Bool := decide (b s = pc) && (alw F s && hit K b s (F 5 * 8 + F 4))
def jLg (K : KT) (b : Int → Int) (F : Int → Int) (s : Nat) : Bool := lgl K b s (F 5 * 8 + F 4)
def jdE (K : KT) (b : Int → Int) (F : Int → Int) (x : Int × Int × Int) : Int := if x.2.1 = 1 then (if F 7 = (if b (F 5 * 8 + F 4) = -1 then 0 else 1) then (if F 6 = sgn K b x.2.2 (F 5 * 8 + F 4) then 0 else 7) else 6) else if x.1 = 0 then 3 else if x.2.1 = 0 then 4 else 5
theorem jdE_rg {K : KT} {b : Int → Int} {F : Int → Int} {x : Int × Int × Int} : jdE K b F x = 0 ∨ (3 ≤ jdE K b F x ∧ jdE K b F x ≤ 7) := by
  unfold jdE
  repeat' split
  all_goals omega
def jdX (K : KT) (b : Int → Int) (pc : Int) (F : Int → Int) : Int × Int × Int := jdF (jCn K b pc F) (jLg K b F) 64 0 (0, 0, -1)
abbrev fRg (F : Int → Int) : Prop := (0 ≤ F 4 ∧ F 4 ≤ 7) ∧ (0 ≤ F 5 ∧ F 5 ≤ 7) ∧ (-1 ≤ F 2 ∧ F 2 ≤ 7) ∧ (-1 ≤ F 3 ∧ F 3 ≤ 7) ∧ (F 6 = -1 ∨ F 6 = 43 ∨ F 6 = 35) ∧ (F 7 = 0 ∨ F 7 = 1)
theorem jL71 {K : KT} {n : Int} {b : Int → Int} {H : HS} (g : gd K n b) (c : cSt K n b H) {pc : Int} (hpc : 0 ≤ pc ∧ pc < 100) (fr0 : fRg (H 18)) : ∀ (nf j : Nat) (a cc fr : Int), (0 ≤ a ∧ a ≤ j) → (0 ≤ cc ∧ cc ≤ j) → (cc = 0 ∨ ((0 ≤ fr ∧ fr < 64) ∧ b fr = pc)) → j ≤ 64 → 64 - j < nf → fX5_judge_L71 nf pc (H 18 5 * 8 + H 18 4) a cc fr (j : Int) H = some (jdE K b (H 18) (jdF (jCn K b pc (H 18)) (jLg K b (H 18)) (64 - j) j (a, cc, fr)), if jdE K b (H 18) (jdF (jCn K b pc (H 18)) (jLg K b (H 18)) (64 - j) j (a, cc, fr)) = 0 then hs (hs H 0 11 (jdF (jCn K b pc (H 18)) (jLg K b (H 18)) (64 - j) j (a, cc, fr)).2.2) 0 12 (H 18 5 * 8 + H 18 4) else H)
  | 0, j, a, cc, fr, ha, hc, hfr, h1, h2 => by omega
  | nf + 1, j, a, cc, fr, ha, hc, hfr, h1, h2 => by
    have n0 := g.1
    obtain ⟨r4, r5, r2, r3, r6, r7⟩ := fr0
    obtain ⟨to, eto⟩ : ∃ to, to = H 18 5 * 8 + H 18 4 := ⟨_, rfl⟩
    have hto : 0 ≤ to ∧ to < 64 := by omega
    obtain ⟨t1, t2⟩ := g.2.1 to hto.1 hto.2
    rw [fX5_judge_L71]
    unfold fX5_judge_b142
    rw [← eto, wr_of (z := (j : Int)) (by omega) (by omega), wr_of (z := cc) (by omega) (by omega), wr_of (z := a) (by omega) (by omega)]
    by_cases hj : (64 : Int) ≤ (j : Int)
    · rw [if_pos hj, show 64 - j = 0 by omega]
      show _ = some (jdE K b (H 18) (a, cc, fr), if jdE K b (H 18) (a, cc, fr) = 0 then hs (hs H 0 11 fr) 0 12 to else H)
      unfold jdE
      rw [← eto]
      dsimp only
      by_cases q1 : cc = 1
      · have hfr2 : (0 ≤ fr ∧ fr < 64) ∧ b fr = pc := by
          rcases hfr with k | k
          · omega
          · exact k
        have hsv := sgn_v (K := K) (b := b) (f := fr) (t := to)
        unfold fX2_captures fX0_isTaken fX2_sign
        rw [if_pos q1, if_pos r7, Option.bind_some, cX0_piece hto, c.2.1 to hto.1 hto.2, Option.bind_some, wr_of (z := b to) (by omega) (by omega), if_pos q1]
        have e9 : (if b to = -1 then some (0 : Int) else some 1) = some (if b to = -1 then 0 else 1) := by split <;> rfl
        have e10 : wr (if b to = -1 then 0 else 1) = if b to = -1 then 0 else 1 := by split <;> decide
        rw [e9, Option.bind_some, e10, wr_of (z := H 18 7) (by omega) (by omega), Option.bind_some, cX0_sign g c hfr2.1 hto (by omega), Option.bind_some]
        by_cases q2 : H 18 7 = if b to = -1 then 0 else 1
        · rw [if_pos q2, if_pos q2]
          dsimp only
          rw [wr_of (z := H 18 6) (by omega) (by omega), wr_of (z := sgn K b fr to) (by omega) (by omega)]
          by_cases q3 : H 18 6 = sgn K b fr to
          · rw [if_pos q3, if_pos q3, if_pos rfl]
          · rw [if_neg q3, if_neg q3, if_neg (show ¬ (7 : Int) = 0 by decide)]
        · rw [if_neg q2, if_neg q2, if_neg (show ¬ (6 : Int) = 0 by decide)]
      · rw [if_neg q1, if_neg q1]
        by_cases q2 : a = 0
        · rw [if_pos q2, if_pos q2, if_neg (show ¬ (3 : Int) = 0 by decide)]
        · rw [if_neg q2, if_neg q2]
          by_cases q3 : cc = 0
          · rw [if_pos q3, if_pos q3, if_neg (show ¬ (4 : Int) = 0 by decide)]
          · rw [if_neg q3, if_neg q3, if_neg (show ¬ (5 : Int) = 0 by decide)]
    · obtain ⟨v1, v2⟩ := g.2.1 (j : Int) (by omega) (by omega)
      have ih := fun a2 c2 f2 (k1 : 0 ≤ a2 ∧ a2 ≤ ((j + 1 : Nat) : Int)) (k2 : 0 ≤ c2 ∧ c2 ≤ ((j + 1 : Nat) : Int)) k3 => jL71 g c hpc ⟨r4, r5, r2, r3, r6, r7⟩ nf (j + 1) a2 c2 f2 k1 k2 k3 (by omega) (by omega)
      rw [← eto] at ih
      have ej : (j : Int) + 1 = ((j + 1 : Nat) : Int) := by omega
      rw [if_neg hj, cX0_piece (by omega), Option.bind_some, c.2.1 (j : Int) (by omega) (by omega), wr_of (z := b j) (by omega) (by omega), wr_of (z := pc) (by omega) (by omega), ej, jdF_st (by omega)]
      have skip : jCn K b pc (H 18) j = false → fX5_judge_L71 nf pc to a cc fr ((j + 1 : Nat) : Int) H = some (jdE K b (H 18) (jdF (jCn K b pc (H 18)) (jLg K b (H 18)) (64 - (j + 1)) (j + 1) (if jCn K b pc (H 18) j = true then (if jLg K b (H 18) j = true then (a + 1, cc + 1, (j : Int)) else (a + 1, cc, fr)) else (a, cc, fr))), if jdE K b (H 18) (jdF (jCn K b pc (H 18)) (jLg K b (H 18)) (64 - (j + 1)) (j + 1) (if jCn K b pc (H 18) j = true then (if jLg K b (H 18) j = true then (a + 1, cc + 1, (j : Int)) else (a + 1, cc, fr)) else (a, cc, fr))) = 0 then hs (hs H 0 11 (jdF (jCn K b pc (H 18)) (jLg K b (H 18)) (64 - (j + 1)) (j + 1) (if jCn K b pc (H 18) j = true then (if jLg K b (H 18) j = true then (a + 1, cc + 1, (j : Int)) else (a + 1, cc, fr)) else (a, cc, fr))).2.2) 0 12 to else H) := fun e => by
        rw [e, if_neg (show ¬ false = true by decide)]
        exact ih a cc fr (by omega) (by omega) hfr
      by_cases q1 : b j = pc
      · have ea : fX2_allowsFrom (j : Int) H = some (if alw (H 18) j = true then 1 else 0) := by
          unfold fX2_allowsFrom fX2_allowsFrom_b19 alw
          rw [wr_of (z := H 18 2) (by omega) (by omega), wr_of (z := H 18 3) (by omega) (by omega), if_pos (show 0 ≤ (j : Int) ∧ (j : Int) < 2147483648 by omega), if_pos (show 0 ≤ (j : Int) ∧ (j : Int) < 2147483648 by omega), wr_of (z := (j : Int) % 8) (by omega) (by omega), wr_of (z := (j : Int) / 8) (by omega) (by omega)]
          by_cases p1 : H 18 2 = -1
          · by_cases p2 : H 18 3 = -1
            · rw [if_pos p1, if_pos p2, decide_eq_true ⟨Or.inl p1, Or.inl p2⟩, if_pos rfl]
            · rw [if_pos p1, if_neg p2]
              by_cases p3 : H 18 3 = (j : Int) / 8
              · rw [if_pos p3, decide_eq_true ⟨Or.inl p1, Or.inr p3⟩, if_pos rfl]
              · rw [if_neg p3, decide_eq_false (fun k => k.2.elim p2 p3), if_neg (by decide)]
          · rw [if_neg p1]
            by_cases p4 : H 18 2 = (j : Int) % 8
            · rw [if_pos p4]
              by_cases p2 : H 18 3 = -1
              · rw [if_pos p2, decide_eq_true ⟨Or.inr p4, Or.inl p2⟩, if_pos rfl]
              · rw [if_neg p2]
                by_cases p3 : H 18 3 = (j : Int) / 8
                · rw [if_pos p3, decide_eq_true ⟨Or.inr p4, Or.inr p3⟩, if_pos rfl]
                · rw [if_neg p3, decide_eq_false (fun k => k.2.elim p2 p3), if_neg (by decide)]
            · rw [if_neg p4, decide_eq_false (fun k => k.1.elim p1 p4), if_neg (by decide)]
        rw [if_pos q1, ea, Option.bind_some]
        by_cases q2 : alw (H 18) j = true
        · rw [if_pos q2, if_neg (show ¬ wr 1 = 0 by decide), ucX0_reaches g c (by omega) (by omega) hto, Option.bind_some]
          by_cases q3 : hit K b j to = true
          · have eC : jCn K b pc (H 18) j = true := by unfold jCn; rw [decide_eq_true q1, q2, ← eto, q3]; rfl
            have eL : jLg K b (H 18) j = lgl K b j to := by unfold jLg; rw [← eto]
            rw [if_pos q3, if_neg (show ¬ wr 1 = 0 by decide), cX0_safe g c (by omega) hto (by omega), Option.bind_some, eC, if_pos rfl, eL]
            by_cases q4 : lgl K b j to = true
            · simp only [if_pos q4, if_neg (show ¬ wr 1 = 0 by decide)]
              exact ih (a + 1) (cc + 1) (j : Int) (by omega) (by omega) (Or.inr ⟨by omega, q1⟩)
            · simp only [if_neg q4, if_pos wr_0]
              exact ih (a + 1) cc fr (by omega) (by omega) hfr
          · rw [if_neg q3, if_pos wr_0]
            exact skip (by unfold jCn; rw [← eto, Bool.eq_false_iff.mpr q3, Bool.and_false, Bool.and_false])
        · rw [if_neg q2, if_pos wr_0]
          exact skip (by unfold jCn; rw [Bool.eq_false_iff.mpr q2, Bool.false_and, Bool.and_false])
      · rw [if_neg q1]
        exact skip (by unfold jCn; rw [decide_eq_false q1, Bool.false_and])
end ZJUDGE
