section ZREF3
/-! the reference: legal moves, their number, the sign; the trial's board is no matter -/
abbrev fr36 (h1 h : HS) : Prop := ∀ a : Nat, a ≠ 36 → h1 a = h a
theorem mSt_fr {K : KT} {b : Int → Int} {h h1 : HS} (w : mSt 35 K b h) (f : fr36 h1 h) : mSt 35 K b h1 :=
  ⟨fun s s0 s1 => by rw [f 35 (by decide)]; exact w.1 s s0 s1, fun i i0 i1 => by rw [f 32 (by decide)]; exact w.2.1 i i0 i1, fun i j i0 i1 j0 j1 => by rw [f 33 (by decide)]; exact w.2.2 i j i0 i1 j0 j1⟩
theorem fr36_tr {h2 h1 h : HS} (a : fr36 h2 h1) (b : fr36 h1 h) : fr36 h2 h := fun i hi => by rw [a i hi, b i hi]
def trT (f t : Int) (h : HS) : HS := hs (hs (hcp h 35 0 36 0 64) 36 t (hcp h 35 0 36 0 64 36 f)) 36 f (-1)
theorem trT_fr {f t : Int} {h : HS} : fr36 (trT f t h) h := fun a ha => by
  unfold trT
  rw [hs_ne _ _ _ ha, hs_ne _ _ _ ha, hcp_ne _ _ _ _ _ ha]
theorem trT_st {K : KT} {b : Int → Int} {h : HS} (w : mSt 35 K b h) {f t : Int} (hf : 0 ≤ f ∧ f < 64) : mSt 36 K (mv b f t) (trT f t h) := by
  have hc : ∀ s : Int, 0 ≤ s → s < 64 → hcp h 35 0 36 0 64 36 s = b s := fun s s0 s1 => by
    rw [hcp_eq]
    show (if _ then _ else _) = _
    rw [if_pos (by omega), show (0 : Int) + (s - 0) = s by omega]
    exact w.1 s s0 s1
  refine ⟨fun s s0 s1 => ?_, fun i i0 i1 => by rw [trT_fr 32 (by decide)]; exact w.2.1 i i0 i1, fun i j i0 i1 j0 j1 => by rw [trT_fr 33 (by decide)]; exact w.2.2 i j i0 i1 j0 j1⟩
  unfold trT mv
  rw [hs_at, if_pos rfl, hs_at, if_pos rfl, hc f hf.1 hf.2, hc s s0 s1]
theorem mX6_legal {K : KT} {n : Int} {b : Int → Int} {h : HS} (g : gd K n b) (w : mSt 35 K b h) {f t : Int} (hf : 0 ≤ f ∧ f < 64) (ht : 0 ≤ t ∧ t < 64) (hb : 0 ≤ b f) : ∃ h1, fX6_isLegal f t h = some (if lgl K b f t = true then 1 else 0, h1) ∧ fr36 h1 h := by
  have n0 := g.1
  obtain ⟨v1, v2⟩ := g.2.1 f hf.1 hf.2
  have hs := sdOf_01 hb
  refine ⟨trT f t h, ?_, trT_fr⟩
  unfold fX6_isLegal fX6_play_t
  rw [if_pos (by omega), if_pos hf, if_pos ht, if_pos hf, Option.bind_some]
  show (if 0 ≤ f ∧ f < 64 then (fX6_sideOf (trT f t h 35 f) (trT f t h)).bind fun r2 => (fX6_isChecked_t r2 (trT f t h)).bind fun r3 => if wr r3 = 0 then some (1, trT f t h) else some (0, trT f t h) else none) = _
  rw [if_pos hf, trT_fr 35 (by decide), w.1 f hf.1 hf.2, mX6_side (by omega), Option.bind_some, mX6_check_t (gd_mv g hf) (trT_st w hf) hs.2, Option.bind_some]
  unfold lgl
  cases chk K (mv b f t) (sdOf (b f))
  · rfl
  · rfl
theorem mX6_cntL {K : KT} {n : Int} {b : Int → Int} (g : gd K n b) (k5 : Int → Int → Int → Int → HS → Option (Int × HS)) {sd : Int} {f : Nat} (hf : f < 64) (hb : 0 ≤ b f) {lim : Nat} (hlim : lim ≤ 4096) : ∀ (nf j cc : Nat) (h : HS), mSt 35 K b h → j ≤ 64 → 64 - j < nf → cc ≤ lim → ∃ h1, fX6_legalMoves_L32 k5 nf sd (lim : Int) (cc : Int) (f : Int) (j : Int) h = k5 sd (lim : Int) ((min lim (cc + smN (cnP K b f) (64 - j) j) : Nat) : Int) ((f : Int) + 1) h1 ∧ fr36 h1 h
  | 0, j, cc, h, w, h1, h2, h3 => by omega
  | nf + 1, j, cc, h, w, h1, h2, h3 => by
    rw [fX6_legalMoves_L32]
    unfold fX6_legalMoves_b79 fX6_legalMoves_b73
    rw [wr_of (z := (j : Int)) (by omega) (by omega), wr_of (z := (lim : Int)) (by omega) (by omega), wr_of (z := (cc : Int)) (by omega) (by omega)]
    by_cases hj : (64 : Int) ≤ (j : Int)
    · rw [if_pos hj, smN_end (by omega), show min lim (cc + 0) = cc by omega]
      exact ⟨h, rfl, fun _ _ => rfl⟩
    · rw [if_neg hj]
      by_cases hl : (lim : Int) ≤ (cc : Int)
      · rw [if_pos hl, show min lim (cc + smN (cnP K b f) (64 - j) j) = cc by omega]
        exact ⟨h, rfl, fun _ _ => rfl⟩
      · have ej : (j : Int) + 1 = ((j + 1 : Nat) : Int) := by omega
        have ec : (cc : Int) + 1 = ((cc + 1 : Nat) : Int) := by omega
        rw [if_neg hl, smN_64 (by omega), ej, umX6_reaches g w (by omega) (by omega) hb, Option.bind_some]
        by_cases hh : hit K b f j = true
        · obtain ⟨h4, e4, f4⟩ := mX6_legal g w (f := (f : Int)) (t := (j : Int)) (by omega) (by omega) hb
          rw [if_pos hh, if_neg (show ¬ wr 1 = 0 by decide), e4, Option.bind_some]
          by_cases hg : lgl K b f j = true
          · have e0 : cnP K b f j = 1 := by
              unfold cnP
              rw [hh, hg]
              rfl
            obtain ⟨h5, e5, f5⟩ := mX6_cntL g k5 hf hb hlim nf (j + 1) (cc + 1) h4 (mSt_fr w f4) (by omega) (by omega) (by omega)
            simp only [if_pos hg, if_neg (show ¬ wr 1 = 0 by decide)]
            rw [ec, e0, ← Nat.add_assoc]
            exact ⟨h5, e5, fr36_tr f5 f4⟩
          · have e0 : cnP K b f j = 0 := by
              unfold cnP
              rw [if_neg (by rw [Bool.and_eq_true]; exact fun e => hg e.2)]
            obtain ⟨h5, e5, f5⟩ := mX6_cntL g k5 hf hb hlim nf (j + 1) cc h4 (mSt_fr w f4) (by omega) (by omega) (by omega)
            simp only [if_neg hg, if_pos wr_0]
            rw [e0, Nat.zero_add]
            exact ⟨h5, e5, fr36_tr f5 f4⟩
        · have e0 : cnP K b f j = 0 := by
            unfold cnP
            rw [if_neg (by rw [Bool.and_eq_true]; exact fun e => hh e.1)]
          rw [if_neg hh, if_pos wr_0, e0, Nat.zero_add]
          exact mX6_cntL g k5 hf hb hlim nf (j + 1) cc h w (by omega) (by omega) h3
theorem mX6_cntO {K : KT} {n : Int} {b : Int → Int} (g : gd K n b) {sd : Int} (hsd : sd = 0 ∨ sd = 1) {lim : Nat} (hlim : lim ≤ 4096) : ∀ (nf j cc : Nat) (h : HS), mSt 35 K b h → j ≤ 64 → 64 - j < nf → cc ≤ lim → ∃ h1, fX6_legalMoves_L5 nf sd (lim : Int) (cc : Int) (j : Int) h = some (((min lim (cc + smN (cnF K b sd) (64 - j) j) : Nat) : Int), h1) ∧ fr36 h1 h
  | 0, j, cc, h, w, h1, h2, h3 => by omega
  | nf + 1, j, cc, h, w, h1, h2, h3 => by
    have n0 := g.1
    rw [fX6_legalMoves_L5]
    unfold fX6_legalMoves_b79
    rw [wr_of (z := (j : Int)) (by omega) (by omega)]
    by_cases hj : (64 : Int) ≤ (j : Int)
    · rw [if_pos hj, smN_end (by omega), show min lim (cc + 0) = cc by omega]
      exact ⟨h, rfl, fun _ _ => rfl⟩
    · obtain ⟨v1, v2⟩ := g.2.1 (j : Int) (by omega) (by omega)
      have hr := sdOf_rg v1
      have ej : (j : Int) + 1 = ((j + 1 : Nat) : Int) := by omega
      rw [if_neg hj, if_pos (by omega), w.1 (j : Int) (by omega) (by omega), mX6_side (by omega), Option.bind_some, wr_of (z := sdOf (b j)) (by omega) (by omega), wr_of (z := sd) (by omega) (by omega), smN_64 (by omega)]
      by_cases hm : sdOf (b j) = sd
      · have hb : 0 ≤ b j := by
          rcases (show b j = -1 ∨ 0 ≤ b j by omega) with e | e
          · rw [e, sdOf_m] at hm; omega
          · exact e
        have e0 : cnF K b sd j = smN (cnP K b j) 64 0 := by
          unfold cnF
          rw [if_pos hm]
        obtain ⟨h4, e4, f4⟩ := mX6_cntL g (fun a0 a1 a2 a3 hh => fX6_legalMoves_L5 nf a0 a1 a2 a3 hh) (sd := sd) (f := j) (by omega) hb hlim zF 0 cc h w (by omega) (by unfold zF; omega) h3
        obtain ⟨h5, e5, f5⟩ := mX6_cntO g hsd hlim nf (j + 1) (min lim (cc + smN (cnP K b j) 64 0)) h4 (mSt_fr w f4) (by omega) (by omega) (by omega)
        refine ⟨h5, ?_, fr36_tr f5 f4⟩
        rw [if_pos hm, e0, show (0 : Int) = ((0 : Nat) : Int) from rfl, e4]
        show fX6_legalMoves_L5 nf _ _ _ _ _ = _
        rw [ej, show 64 - 0 = 64 from rfl, e5]
        have em : ∀ x y : Nat, min lim (min lim (cc + x) + y) = min lim (cc + (x + y)) := fun x y => by omega
        rw [em]
      · have e0 : cnF K b sd j = 0 := by
          unfold cnF
          rw [if_neg hm]
        rw [if_neg hm, e0, Nat.zero_add, ej]
        exact mX6_cntO g hsd hlim nf (j + 1) cc h w (by omega) (by omega) h3
theorem mX6_count {K : KT} {n : Int} {b : Int → Int} {h : HS} (g : gd K n b) (w : mSt 35 K b h) {sd : Int} (hsd : sd = 0 ∨ sd = 1) {lim : Nat} (hlim : lim ≤ 4096) : ∃ h1, fX6_legalMoves sd (lim : Int) h = some (((min lim (cnt K b sd) : Nat) : Int), h1) ∧ fr36 h1 h := by
  have e := mX6_cntO g hsd hlim zF 0 0 h w (by omega) (by unfold zF; omega) (by omega)
  rw [Nat.zero_add] at e
  exact e
def mvM (f t : Int) (h : HS) : HS := hs (hs h 35 t (h 35 f)) 35 f (-1)
theorem mvM_at {f t : Int} {h : HS} {a : Nat} (ha : a ≠ 35) : mvM f t h a = h a := by
  unfold mvM
  rw [hs_ne _ _ _ ha, hs_ne _ _ _ ha]
theorem mvM_35 {f t : Int} {h : HS} : mvM f t h 35 = mv (h 35) f t := by
  funext s
  unfold mvM mv
  rw [hs_at, if_pos rfl]
  by_cases e : s = f
  · rw [if_pos e, if_pos e]
  · rw [if_neg e, if_neg e, hs_at, if_pos rfl]
theorem umX6_play {f t : Int} {h : HS} (hf : 0 ≤ f ∧ f < 64) (ht : 0 ≤ t ∧ t < 64) : fX6_play f t h = some (mvM f t h) := by
  unfold fX6_play
  rw [if_pos hf, if_pos ht, if_pos hf]
  rfl
theorem mvM_st {K : KT} {b : Int → Int} {h : HS} (w : mSt 35 K b h) {f t : Int} (hf : 0 ≤ f ∧ f < 64) : mSt 35 K (mv b f t) (mvM f t h) := by
  refine ⟨fun s s0 s1 => ?_, fun i i0 i1 => by rw [mvM_at (by decide)]; exact w.2.1 i i0 i1, fun i j i0 i1 j0 j1 => by rw [mvM_at (by decide)]; exact w.2.2 i j i0 i1 j0 j1⟩
  rw [mvM_35]
  unfold mv
  rw [w.1 s s0 s1, w.1 f hf.1 hf.2]
theorem mX6_b61 {f t v : Int} {h h1 : HS} (hf : 0 ≤ f ∧ f < 64) (ht : 0 ≤ t ∧ t < 64) (fr : fr36 h1 (mvM f t h)) : ∃ h2, fX6_sign_b61 f t (h 35 t) v h1 = some (v, h2) ∧ fr36 h2 h := by
  unfold fX6_sign_b61
  rw [if_pos ht, if_pos hf, if_pos ht]
  refine ⟨_, rfl, fun a ha => ?_⟩
  by_cases h35 : a = 35
  · subst h35
    funext s
    rw [hs_at, if_pos rfl]
    by_cases e1 : s = t
    · rw [if_pos e1, e1]
    · rw [if_neg e1, hs_at, if_pos rfl, fr 35 (by decide), mvM_35]
      unfold mv
      by_cases e2 : s = f
      · rw [if_pos e2, if_neg (fun e => e1 (by rw [e2, e])), if_pos rfl, e2]
      · rw [if_neg e2, if_neg e2, if_neg e1]
  · rw [hs_ne _ _ _ h35, hs_ne _ _ _ h35, fr a ha, mvM_at h35]
theorem umX6_sign {K : KT} {n : Int} {b : Int → Int} {h : HS} (g : gd K n b) (w : mSt 35 K b h) {f t : Int} (hf : 0 ≤ f ∧ f < 64) (ht : 0 ≤ t ∧ t < 64) (hb : 0 ≤ b f) : ∃ h1, fX6_sign f t h = some (sgn K b f t, h1) ∧ fr36 h1 h := by
  have n0 := g.1
  obtain ⟨v1, v2⟩ := g.2.1 f hf.1 hf.2
  have hs := sdOf_01 hb
  have ho : 1 - sdOf (b f) = 0 ∨ 1 - sdOf (b f) = 1 := by omega
  obtain ⟨h4, ec, f4⟩ := mX6_count (gd_mv g (t := t) hf) (mvM_st w (t := t) hf) ho (lim := 1) (by omega)
  unfold fX6_sign
  rw [if_pos hf, w.1 f hf.1 hf.2, mX6_side (by omega), Option.bind_some, if_pos ht, umX6_play hf ht, Option.bind_some, mX6_check (gd_mv g hf) (mvM_st w hf) ho, Option.bind_some]
  unfold sgn
  by_cases hk : chk K (mv b f t) (1 - sdOf (b f)) = true
  · simp only [if_pos hk, if_neg (show ¬ wr 1 = 0 by decide)]
    have ec2 : fX6_legalMoves (1 - sdOf (b f)) 1 (mvM f t h) = some (((min 1 (cnt K (mv b f t) (1 - sdOf (b f))) : Nat) : Int), h4) := ec
    rw [ec2, Option.bind_some]
    by_cases hc : 0 < cnt K (mv b f t) (1 - sdOf (b f))
    · have e1 : min 1 (cnt K (mv b f t) (1 - sdOf (b f))) = 1 := by omega
      rw [if_pos hc, if_neg (by rw [e1]; exact (show ¬ wr ((1 : Nat) : Int) ≤ 0 by decide))]
      exact mX6_b61 hf ht f4
    · have e1 : min 1 (cnt K (mv b f t) (1 - sdOf (b f))) = 0 := by omega
      rw [if_neg hc, if_pos (by rw [e1]; exact (show wr ((0 : Nat) : Int) ≤ 0 by decide))]
      exact mX6_b61 hf ht f4
  · simp only [if_neg hk, if_pos wr_0]
    exact mX6_b61 hf ht (fun _ _ => rfl)
end ZREF3
