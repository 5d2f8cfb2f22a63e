section ZCLS3
theorem cX0_cntL {K : KT} {n : Int} {b : Int → Int} {h : HS} (g : gd K n b) (c : cSt K n b h) (k5 : Int → Int → Int → Int → HS → Option (Int × HS)) {sd : Int} {f : Nat} (hf : f < 64) (hb : 0 ≤ b f) {r : Int64} (hr : ∀ t : Nat, t < 64 → (bi r t = true ↔ hit K b f t = true)) {lim : Nat} (hlim : lim ≤ 4096) : ∀ (nf j cc : Nat), j ≤ 64 → 64 - j < nf → cc ≤ lim → fX0_countLegalMoves_L56 k5 nf sd (lim : Int) (cc : Int) (f : Int) r (j : Int) h = k5 sd (lim : Int) ((min lim (cc + smN (cnP K b f) (64 - j) j) : Nat) : Int) ((f : Int) + 1) h
  | 0, j, cc, h1, h2, h3 => by omega
  | nf + 1, j, cc, h1, h2, h3 => by
    rw [fX0_countLegalMoves_L56]
    unfold fX0_countLegalMoves_b110 fX0_countLegalMoves_b104
    rw [wr_of (z := (j : Int)) (by omega) (by omega), wr_of (z := (lim : Int)) (by omega) (by omega), wr_of (z := (cc : Int)) (by omega) (by omega)]
    by_cases hj : (64 : Int) ≤ (j : Int)
    · rw [if_pos hj, smN_end (by omega), show min lim (cc + 0) = cc by omega]
    · rw [if_neg hj]
      by_cases hz : wr (zcmp (zushr r j) (Int64.ofNat 0)) = 0
      · have e0 : smN (cnP K b f) (64 - j) j = 0 := smN_0 (fun k k1 k2 => by
          have z := (zbitr (by omega)).mp hz k (by omega) (by omega)
          have hn : ¬ hit K b f k = true := fun e => by rw [(hr k (by omega)).mpr e] at z; exact absurd z (by decide)
          unfold cnP
          rw [if_neg (by rw [Bool.and_eq_true]; exact fun e => hn e.1)])
        rw [if_pos hz, e0, show min lim (cc + 0) = cc by omega]
      · rw [if_neg hz]
        by_cases hl : (lim : Int) ≤ (cc : Int)
        · rw [if_pos hl, show min lim (cc + smN (cnP K b f) (64 - j) j) = cc by omega]
        · have ej : (j : Int) + 1 = ((j + 1 : Nat) : Int) := by omega
          have ec : (cc : Int) + 1 = ((cc + 1 : Nat) : Int) := by omega
          rw [if_neg hl, smN_64 (by omega), ej]
          by_cases hq : wr (zcmp ((zushr r j) &&& (Int64.ofNat 1)) (Int64.ofNat 0)) = 0
          · have z := (zbit (by omega)).mp hq
            have hn : ¬ hit K b f j = true := fun e => by
              rw [show ((j : Int)).toNat = j by omega, (hr j (by omega)).mpr e] at z
              exact absurd z (by decide)
            have e0 : cnP K b f j = 0 := by
              unfold cnP
              rw [if_neg (by rw [Bool.and_eq_true]; exact fun e => hn e.1)]
            rw [if_pos hq, e0, Nat.zero_add]
            exact cX0_cntL g c k5 hf hb hr hlim nf (j + 1) cc (by omega) (by omega) h3
          · have hh : hit K b f j = true := by
              refine (hr j (by omega)).mp ?_
              cases hb2 : bi r j
              · exact absurd ((zbit (x := r) (s := (j : Int)) (by omega)).mpr (by rw [show ((j : Int)).toNat = j by omega]; exact hb2)) hq
              · rfl
            rw [if_neg hq, cX0_safe g c (by omega) (by omega) hb, Option.bind_some]
            by_cases hg : lgl K b f j = true
            · have e0 : cnP K b f j = 1 := by
                unfold cnP
                rw [hh, hg]
                rfl
              simp only [if_pos hg, if_neg (show ¬ wr 1 = 0 by decide)]
              rw [ec, e0, ← Nat.add_assoc]
              exact cX0_cntL g c k5 hf hb hr hlim nf (j + 1) (cc + 1) (by omega) (by omega) (by omega)
            · have e0 : cnP K b f j = 0 := by
                unfold cnP
                rw [if_neg (by rw [Bool.and_eq_true]; exact fun e => hg e.2)]
              simp only [if_neg hg, if_pos wr_0]
              rw [e0, Nat.zero_add]
              exact cX0_cntL g c k5 hf hb hr hlim nf (j + 1) cc (by omega) (by omega) h3
theorem cX0_cnt0 (k5 : Int → Int → Int → Int → HS → Option (Int × HS)) {sd f : Int} {lim cc : Int} {nf : Nat} {h : HS} : fX0_countLegalMoves_L56 k5 (nf + 1) sd lim cc f (Int64.ofNat 0) 0 h = k5 sd lim cc (f + 1) h := by
  rw [fX0_countLegalMoves_L56]
  unfold fX0_countLegalMoves_b110
  rw [if_neg (by decide), if_pos ((zbitr (x := Int64.ofNat 0) (s := 0) (by omega)).mpr (fun t _ _ => bi_zero t))]
theorem cX0_cntO {K : KT} {n : Int} {b : Int → Int} {h : HS} (g : gd K n b) (c : cSt K n b h) {sd : Int} (hsd : sd = 0 ∨ sd = 1) {lim : Nat} (hlim : lim ≤ 4096) : ∀ (nf j cc : Nat), j ≤ 64 → 64 - j < nf → cc ≤ lim → fX0_countLegalMoves_L5 nf sd (lim : Int) (cc : Int) (j : Int) h = some (((min lim (cc + smN (cnF K b sd) (64 - j) j) : Nat) : Int), h)
  | 0, j, cc, h1, h2, h3 => by omega
  | nf + 1, j, cc, h1, h2, h3 => by
    have n0 := g.1
    rw [fX0_countLegalMoves_L5]
    unfold fX0_countLegalMoves_b50 fX0_countLegalMoves_b51
    rw [wr_of (z := (j : Int)) (by omega) (by omega), wr_of (z := (lim : Int)) (by omega) (by omega), wr_of (z := (cc : Int)) (by omega) (by omega)]
    by_cases hj : (64 : Int) ≤ (j : Int)
    · rw [if_pos hj, smN_end (by omega), show min lim (cc + 0) = cc by omega]
    · rw [if_neg hj]
      by_cases hl : (lim : Int) ≤ (cc : Int)
      · rw [if_pos hl, show min lim (cc + smN (cnF K b sd) (64 - j) j) = cc by omega]
      · obtain ⟨v1, v2⟩ := g.2.1 (j : Int) (by omega) (by omega)
        have ej : (j : Int) + 1 = ((j + 1 : Nat) : Int) := by omega
        rw [if_neg hl, if_pos (by omega), c.2.1 (j : Int) (by omega) (by omega), wr_of (z := b j) (by omega) (by omega), smN_64 (by omega)]
        have ih := fun cc2 (hc2 : cc2 ≤ lim) => cX0_cntO g c hsd hlim nf (j + 1) cc2 (by omega) (by omega) hc2
        by_cases hv : b j = -1
        · have e0 : cnF K b sd j = 0 := by
            unfold cnF
            rw [hv, sdOf_m, if_neg (by omega)]
          rw [if_pos hv, e0, Nat.zero_add]
          show fX0_countLegalMoves_L56 _ (4999 + 1) _ _ _ _ _ _ _ = _
          rw [cX0_cnt0]
          show fX0_countLegalMoves_L5 nf _ _ _ _ _ = _
          rw [ej]
          exact ih cc h3
        · have hs := sdOf_01 (v := b j) (by omega)
          rw [if_neg hv, if_pos (by omega), if_pos (by omega), wr_of (z := b j % 2) (by omega) (by omega), wr_of (z := sd) (by omega) (by omega)]
          by_cases hm : b j % 2 = sd
          · obtain ⟨r1, e1, e2⟩ := cX0_from g c (f := (j : Int)) (by omega) (by omega)
            have e0 : cnF K b sd j = smN (cnP K b j) 64 0 := by
              unfold cnF
              rw [hs.1, if_pos hm]
            rw [if_pos hm, e1, Option.bind_some, e0, show (0 : Int) = ((0 : Nat) : Int) from rfl, cX0_cntL g c _ (by omega) (by omega) e2 hlim zF 0 cc (by omega) (by unfold zF; omega) h3]
            show fX0_countLegalMoves_L5 nf _ _ _ _ _ = _
            rw [ej, ih _ (by omega)]
            show some _ = some _
            have em : ∀ x y : Nat, min lim (min lim (cc + x) + y) = min lim (cc + (x + y)) := fun x y => by omega
            rw [show 64 - 0 = 64 from rfl, em]
          · have e0 : cnF K b sd j = 0 := by
              unfold cnF
              rw [hs.1, if_neg hm]
            rw [if_neg hm, e0, Nat.zero_add]
            show fX0_countLegalMoves_L56 _ (4999 + 1) _ _ _ _ _ _ _ = _
            rw [cX0_cnt0]
            show fX0_countLegalMoves_L5 nf _ _ _ _ _ = _
            rw [ej]
            exact ih cc h3
theorem cX0_count {K : KT} {n : Int} {b : Int → Int} {h : HS} (g : gd K n b) (c : cSt K n b h) {sd : Int} (hsd : sd = 0 ∨ sd = 1) {lim : Nat} (hlim : lim ≤ 4096) : fX0_countLegalMoves sd (lim : Int) h = some (((min lim (cnt K b sd) : Nat) : Int), h) := by
  have e := cX0_cntO g c hsd hlim zF 0 0 (by omega) (by unfold zF; omega) (by omega)
  rw [Nat.zero_add] at e
  exact e
theorem cX0_sign {K : KT} {n : Int} {b : Int → Int} {h : HS} (g : gd K n b) (c : cSt K n b h) {f t : Int} (hf : 0 ≤ f ∧ f < 64) (ht : 0 ≤ t ∧ t < 64) (hb : 0 ≤ b f) : fX0_signBehind f t h = some (sgn K b f t, h) := by
  have n0 := g.1
  obtain ⟨v1, v2⟩ := g.2.1 f hf.1 hf.2
  have hs := sdOf_01 hb
  have ho : 1 - sdOf (b f) = 0 ∨ 1 - sdOf (b f) = 1 := by omega
  have ec := cX0_count (gd_mv g (t := t) hf) (cSt_mv c (t := t) hf) ho (lim := 1) (by omega)
  unfold fX0_signBehind fX0_signBehind_b47 fX0_signBehind_b45 fX0_signBehind_b47
  rw [cX0_piece hf, c.2.1 f hf.1 hf.2, Option.bind_some, if_pos (by omega), ucX0_move hf ht, Option.bind_some, ← hs.1, cX0_check (gd_mv g hf) (cSt_mv c hf) ho, Option.bind_some]
  unfold sgn
  by_cases hk : chk K (mv b f t) (1 - sdOf (b f)) = true
  · simp only [if_pos hk, if_neg (show ¬ wr 1 = 0 by decide)]
    rw [show (1 : Int) = ((1 : Nat) : Int) from rfl] at ec ⊢
    rw [ec, Option.bind_some]
    by_cases hc : 0 < cnt K (mv b f t) (1 - sdOf (b f))
    · have e1 : min 1 (cnt K (mv b f t) (1 - sdOf (b f))) = 1 := by omega
      rw [if_neg (by rw [show (((1 : Nat) : Int)) - sdOf (b f) = 1 - sdOf (b f) from rfl, e1]; exact (show ¬ wr ((1 : Nat) : Int) ≤ 0 by decide)), cX0_back hf ht rfl, Option.bind_some]
      exact congrArg some (by rw [show (((1 : Nat) : Int)) - sdOf (b f) = 1 - sdOf (b f) from rfl, if_pos hc])
    · have e1 : min 1 (cnt K (mv b f t) (1 - sdOf (b f))) = 0 := by omega
      rw [if_pos (by rw [show (((1 : Nat) : Int)) - sdOf (b f) = 1 - sdOf (b f) from rfl, e1]; exact (show wr ((0 : Nat) : Int) ≤ 0 by decide)), cX0_back hf ht rfl, Option.bind_some]
      exact congrArg some (by rw [show (((1 : Nat) : Int)) - sdOf (b f) = 1 - sdOf (b f) from rfl, if_neg hc])
  · simp only [if_neg hk, if_pos wr_0]
    rw [cX0_back hf ht rfl, Option.bind_some]
end ZCLS3
