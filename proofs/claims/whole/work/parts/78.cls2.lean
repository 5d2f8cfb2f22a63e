section ZCLS2
/-! the class: check, legal moves, their number, the sign -/
def ckP (K : KT) (b : Int → Int) (sd : Int) (f : Nat) : Bool := decide (sdOf (b f) = 1 - sd) && exB (fun t => decide (b t = sd) && hit K b f t) 64 0
theorem exB_64 {p : Nat → Bool} {j : Nat} (h : j < 64) : exB p (64 - j) j = (p j || exB p (64 - (j + 1)) (j + 1)) := by
  rw [show 64 - j = (64 - (j + 1)) + 1 by omega]
  rfl
theorem smN_64 {p : Nat → Nat} {j : Nat} (h : j < 64) : smN p (64 - j) j = p j + smN p (64 - (j + 1)) (j + 1) := by
  rw [show 64 - j = (64 - (j + 1)) + 1 by omega]
  rfl
theorem exB_end {p : Nat → Bool} {j : Nat} (h : 64 ≤ j) : exB p (64 - j) j = false := by
  rw [show 64 - j = 0 by omega]
  rfl
theorem smN_end {p : Nat → Nat} {j : Nat} (h : 64 ≤ j) : smN p (64 - j) j = 0 := by
  rw [show 64 - j = 0 by omega]
  rfl
theorem cX0_royL {K : KT} {n : Int} {b : Int → Int} {h : HS} (g : gd K n b) (c : cSt K n b h) {sd : Int} (hsd : sd = 0 ∨ sd = 1) : ∀ (nf j : Nat) (acc : Int64), j ≤ 64 → 64 - j < nf → ∃ r, fX0_royalsOf_L5 nf sd acc (j : Int) h = some r ∧ ∀ t : Nat, t < 64 → (bi r t = true ↔ (bi acc t = true ∨ (j ≤ t ∧ b t = sd)))
  | 0, j, acc, h1, h2 => by omega
  | nf + 1, j, acc, h1, h2 => by
    have n0 := g.1
    rw [fX0_royalsOf_L5]
    unfold fX0_royalsOf_b32
    rw [wr_of (z := (j : Int)) (by omega) (by omega)]
    by_cases hj : (64 : Int) ≤ (j : Int)
    · rw [if_pos hj]
      refine ⟨acc, rfl, fun t ht => ⟨Or.inl, fun e => ?_⟩⟩
      rcases e with e | e
      · exact e
      · omega
    · obtain ⟨v1, v2⟩ := g.2.1 (j : Int) (by omega) (by omega)
      have ej : (j : Int) + 1 = ((j + 1 : Nat) : Int) := by omega
      rw [if_neg hj, if_pos (by omega), c.2.1 (j : Int) (by omega) (by omega), wr_of (z := b j) (by omega) (by omega), wr_of (z := 0 + sd) (by omega) (by omega), Int.zero_add, ej]
      by_cases hv : b j = sd
      · rw [if_pos hv]
        obtain ⟨r, e1, e2⟩ := cX0_royL g c hsd nf (j + 1) (acc ||| zshl (Int64.ofNat 1) j) (by omega) (by omega)
        refine ⟨r, e1, fun t ht => ?_⟩
        rw [e2 t ht, bi_or, bi_shl (by omega) ht]
        by_cases hq : t = j
        · subst hq
          simp [hv]
        · have hn : ¬ (t : Int) = (j : Int) := by omega
          rw [decide_eq_false hn, Bool.or_false]
          constructor
          · rintro (k | k)
            · exact Or.inl k
            · exact Or.inr ⟨by omega, k.2⟩
          · rintro (k | k)
            · exact Or.inl k
            · exact Or.inr ⟨by omega, k.2⟩
      · rw [if_neg hv]
        obtain ⟨r, e1, e2⟩ := cX0_royL g c hsd nf (j + 1) acc (by omega) (by omega)
        refine ⟨r, e1, fun t ht => ?_⟩
        rw [e2 t ht]
        constructor
        · rintro (k | k)
          · exact Or.inl k
          · exact Or.inr ⟨by omega, k.2⟩
        · rintro (k | k)
          · exact Or.inl k
          · refine Or.inr ⟨?_, k.2⟩
            have hq : t ≠ j := fun e => hv (by rw [← e]; exact k.2)
            omega
theorem cX0_chk1 {sd x : Int} {r : Int64} {nf : Nat} {h : HS} : fX0_inCheck_L12 (nf + 1) sd r 1 x h = some 1 := by
  rw [fX0_inCheck_L12]
  have e : wr 1 = 1 := by decide
  simp [e]
theorem cX0_chkL {K : KT} {n : Int} {b : Int → Int} {h : HS} (g : gd K n b) (c : cSt K n b h) {sd : Int} (hsd : sd = 0 ∨ sd = 1) {r : Int64} (hr : ∀ t : Nat, t < 64 → (bi r t = true ↔ b t = sd)) : ∀ (nf j : Nat), j ≤ 64 → 64 - j + 1 < nf → fX0_inCheck_L12 nf sd r 0 (j : Int) h = some (if exB (ckP K b sd) (64 - j) j = true then 1 else 0)
  | 0, j, h1, h2 => by omega
  | nf + 1, j, h1, h2 => by
    have n0 := g.1
    rw [fX0_inCheck_L12]
    unfold fX0_inCheck_b74 fX0_inCheck_b72 fX0_inCheck_b74
    rw [wr_of (z := (j : Int)) (by omega) (by omega)]
    by_cases hj : (64 : Int) ≤ (j : Int)
    · rw [if_pos hj, if_pos (Or.inl rfl), exB_end (by omega)]
      rfl
    · rw [if_neg hj]
      by_cases hz : wr (zcmp r (Int64.ofNat 0)) = 0
      · have e0 : exB (ckP K b sd) (64 - j) j = false := by
          cases he : exB (ckP K b sd) (64 - j) j
          · rfl
          · obtain ⟨k, k1, k2, k3⟩ := exB_iff.mp he
            unfold ckP at k3
            rw [Bool.and_eq_true, exB_iff] at k3
            obtain ⟨-, t, t1, t2, t3⟩ := k3
            rw [Bool.and_eq_true, decide_eq_true_iff] at t3
            have z := zbit0.mp hz t (by omega)
            rw [(hr t (by omega)).mpr t3.1] at z
            exact absurd z (by decide)
        rw [if_pos hz, if_pos (Or.inl rfl), e0]
        rfl
      · obtain ⟨v1, v2⟩ := g.2.1 (j : Int) (by omega) (by omega)
        have ej : (j : Int) + 1 = ((j + 1 : Nat) : Int) := by omega
        have ih := cX0_chkL g c hsd hr nf (j + 1) (by omega) (by omega)
        rw [if_neg hz, if_pos wr_0, if_pos (by omega), c.2.1 (j : Int) (by omega) (by omega), wr_of (z := b j) (by omega) (by omega), ej, exB_64 (by omega)]
        by_cases hv : b j = -1
        · have hp : ckP K b sd j = false := by
            unfold ckP
            rw [hv, sdOf_m, decide_eq_false (by omega)]
            rfl
          rw [if_pos hv, hp, Bool.false_or]
          exact ih
        · have hs := sdOf_01 (v := b j) (by omega)
          rw [if_neg hv, if_pos (by omega), if_pos (by omega), wr_of (z := b j % 2) (by omega) (by omega), wr_of (z := sd) (by omega) (by omega)]
          by_cases hm : b j % 2 = sd
          · have hp : ckP K b sd j = false := by
              unfold ckP
              rw [hs.1, decide_eq_false (by omega)]
              rfl
            rw [if_pos hm, hp, Bool.false_or]
            exact ih
          · obtain ⟨r1, e1, e2⟩ := cX0_from g c (f := (j : Int)) (by omega) (by omega)
            rw [if_neg hm, e1, Option.bind_some]
            have hp : ckP K b sd j = exB (fun t => decide (b t = sd) && hit K b j t) 64 0 := by
              unfold ckP
              rw [hs.1, decide_eq_true (by omega), Bool.true_and]
            by_cases hq : wr (zcmp (r1 &&& r) (Int64.ofNat 0)) = 0
            · have hp2 : ckP K b sd j = false := by
                rw [hp]
                cases he : exB (fun t => decide (b t = sd) && hit K b j t) 64 0
                · rfl
                · obtain ⟨t, t1, t2, t3⟩ := exB_iff.mp he
                  rw [Bool.and_eq_true, decide_eq_true_iff] at t3
                  exact absurd ⟨(e2 t (by omega)).mpr t3.2, (hr t (by omega)).mpr t3.1⟩ (zbits.mp hq t (by omega))
              rw [if_pos hq, hp2, Bool.false_or]
              exact ih
            · have hp2 : ckP K b sd j = true := by
                rw [hp, exB_iff]
                refine Classical.byContradiction (fun hn => hq (zbits.mpr (fun t ht e => hn ⟨t, Nat.zero_le _, by omega, ?_⟩)))
                rw [Bool.and_eq_true, decide_eq_true_iff]
                exact ⟨(hr t ht).mp e.2, (e2 t ht).mp e.1⟩
              rw [if_neg hq, hp2, Bool.true_or, if_pos rfl]
              obtain ⟨m, rfl⟩ : ∃ m, nf = m + 1 := ⟨nf - 1, by omega⟩
              exact cX0_chk1
theorem cX0_check {K : KT} {n : Int} {b : Int → Int} {h : HS} (g : gd K n b) (c : cSt K n b h) {sd : Int} (hsd : sd = 0 ∨ sd = 1) : fX0_inCheck sd h = some (if chk K b sd = true then 1 else 0) := by
  obtain ⟨r, e1, e2⟩ := cX0_royL g c hsd zF 0 (Int64.ofNat 0) (by omega) (by unfold zF; omega)
  unfold fX0_inCheck fX0_royalsOf
  rw [show (0 : Int) = ((0 : Nat) : Int) from rfl, e1, Option.bind_some]
  exact cX0_chkL g c hsd (fun t ht => by rw [e2 t ht, bi_zero]; simp) zF 0 (by omega) (by unfold zF; omega)
/-! a move and back -/
def mvC (f t : Int) (h : HS) : HS := hs (hs h 8 t (h 8 f)) 8 f (-1)
theorem mvC_at {f t : Int} {h : HS} {a : Nat} (ha : a ≠ 8) : mvC f t h a = h a := by
  unfold mvC
  rw [hs_ne _ _ _ ha, hs_ne _ _ _ ha]
theorem mvC_8 {f t : Int} {h : HS} : mvC f t h 8 = mv (h 8) f t := by
  funext s
  unfold mvC mv
  rw [hs_at, if_pos rfl]
  by_cases e : s = f
  · rw [if_pos e, if_pos e]
  · rw [if_neg e, if_neg e, hs_at, if_pos rfl]
theorem ucX0_move {f t : Int} {h : HS} (hf : 0 ≤ f ∧ f < 64) (ht : 0 ≤ t ∧ t < 64) : fX0_move f t h = some (h 8 t, mvC f t h) := by
  unfold fX0_move mvC
  rw [fX5_isSq (by unfold zr; omega), fX5_isSq (by unfold zr; omega), Option.bind_some, Option.bind_some, if_pos hf, if_pos ht, if_neg (show ¬ wr 1 = 0 by decide), if_neg (show ¬ wr 1 = 0 by decide)]
  simp only [if_pos hf, if_pos ht]
theorem cX0_back {f t : Int} {h : HS} (hf : 0 ≤ f ∧ f < 64) (ht : 0 ≤ t ∧ t < 64) {v : Int} (hv : v = h 8 t) : fX0_takeBack f t v (mvC f t h) = some h := by
  subst hv
  have e : hs (hs (mvC f t h) 8 f (mvC f t h 8 t)) 8 t (h 8 t) = h := by
    funext a s
    rw [hs_at]
    by_cases ha : a = 8
    · subst ha
      rw [if_pos rfl]
      by_cases e1 : s = t
      · rw [if_pos e1, e1]
      · rw [if_neg e1, hs_at, if_pos rfl, mvC_8]
        unfold mv
        by_cases e2 : s = f
        · rw [if_pos e2, if_neg (fun e => e1 (by rw [e2, e])), if_pos rfl, e2]
        · rw [if_neg e2, if_neg e2, if_neg e1]
    · rw [if_neg ha, hs_at, if_neg ha, mvC_at ha]
  unfold fX0_takeBack
  rw [fX5_isSq (by unfold zr; omega), fX5_isSq (by unfold zr; omega), Option.bind_some, Option.bind_some, if_pos hf, if_pos ht, if_neg (show ¬ wr 1 = 0 by decide), if_neg (show ¬ wr 1 = 0 by decide)]
  simp only [if_pos hf, if_pos ht, e]
theorem cSt_mv {K : KT} {n : Int} {b : Int → Int} {h : HS} (c : cSt K n b h) {f t : Int} (hf : 0 ≤ f ∧ f < 64) : cSt K n (mv b f t) (mvC f t h) := by
  refine ⟨by rw [mvC_at (by decide)]; exact c.1, fun s s0 s1 => ?_, fun i i0 i1 => by rw [mvC_at (by decide)]; exact c.2.2.1 i i0 i1, fun i j i0 i1 j0 j1 => by rw [mvC_at (by decide), mvC_at (by decide), mvC_at (by decide)]; exact c.2.2.2 i j i0 i1 j0 j1⟩
  rw [mvC_8]
  unfold mv
  rw [c.2.1 s s0 s1, c.2.1 f hf.1 hf.2]
theorem cX0_piece {f : Int} {h : HS} (hf : 0 ≤ f ∧ f < 64) : fX0_pieceOn f h = some (h 8 f) := by
  unfold fX0_pieceOn
  rw [fX5_isSq (by unfold zr; omega), Option.bind_some, if_pos hf, if_neg (show ¬ wr 1 = 0 by decide), if_pos hf]
theorem cX0_safe {K : KT} {n : Int} {b : Int → Int} {h : HS} (g : gd K n b) (c : cSt K n b h) {f t : Int} (hf : 0 ≤ f ∧ f < 64) (ht : 0 ≤ t ∧ t < 64) (hb : 0 ≤ b f) : fX0_keepsRoyalsSafe f t h = some (if lgl K b f t = true then 1 else 0, h) := by
  have n0 := g.1
  obtain ⟨v1, v2⟩ := g.2.1 f hf.1 hf.2
  have hs := sdOf_01 hb
  unfold fX0_keepsRoyalsSafe fX0_keepsRoyalsSafe_b29
  rw [cX0_piece hf, c.2.1 f hf.1 hf.2, Option.bind_some, if_pos (by omega), ucX0_move hf ht, Option.bind_some, ← hs.1, cX0_check (gd_mv g hf) (cSt_mv c hf) hs.2, Option.bind_some]
  simp only [cX0_back hf ht rfl, Option.bind_some]
  unfold lgl
  cases chk K (mv b f t) (sdOf (b f))
  · rfl
  · rfl
end ZCLS2
