section ZPURE5
abbrev fdOk (p q r t : Int) : Prop := (0 ≤ p ∧ p ≤ 255) ∧ byN q ∧ byN r ∧ byN t
def fdN (q r t x : Int) : Int := xU t (xU r (xU q (x + 1)))
theorem xU_le (p x : Int) : x ≤ xU p x ∧ xU p x ≤ x + 1 ∧ (xU p x = x ↔ p = -1) := by
  unfold xU
  by_cases h : p = -1
  · rw [if_pos h]; omega
  · rw [if_neg h]; omega
theorem pX5_isBN {p : Int} {h : HS} (hp : zr p) : fX5_isByteOrNothing p h = some (if byN p then 1 else 0) := by
  unfold fX5_isByteOrNothing
  rw [wr_of hp.1 hp.2]
  by_cases h1 : p < -1
  · rw [if_pos h1, if_neg (by omega)]
  · rw [if_neg h1]
    by_cases h2 : 255 < p
    · rw [if_pos h2, if_neg (by omega)]
    · rw [if_neg h2, if_pos (by omega)]
theorem pX5_countB {p : Int} {h : HS} (hp : zr p) : fX5_countByte p h = some (xU p 0) := by
  unfold fX5_countByte xU
  rw [wr_of hp.1 hp.2]
  by_cases h1 : p = -1
  · rw [if_pos h1, if_pos h1]
  · rw [if_neg h1, if_neg h1]
    rfl
theorem xU_add (p x : Int) : xU p x = x + xU p 0 := by
  unfold xU
  by_cases h : p = -1
  · rw [if_pos h, if_pos h]; omega
  · rw [if_neg h, if_neg h]; omega
theorem pX5_feed {p q r t : Int} {h : HS} (hp : zr p) (hq : zr q) (hr : zr r) (ht : zr t) (hn : 0 ≤ h 19 1 ∧ h 19 1 ≤ 2000) : fX5_feed p q r t h = if fdOk p q r t then (if fdN q r t (h 19 1) ≤ 2000 then some (0, fdN q r t (h 19 1), apU t (apU r (apU q (apT p h)))) else some (3, 0, h)) else some (2, 0, h) := by
  unfold fX5_feed fX5_feed_b33
  rw [wr_of hp.1 hp.2, pX5_isBN hq, pX5_isBN hr, pX5_isBN ht, pX5_countB hq, pX5_countB hr, pX5_countB ht]
  by_cases h1 : p < 0
  · rw [if_pos h1, if_neg (by omega)]
  rw [if_neg h1]
  by_cases h2 : 255 < p
  · rw [if_pos h2, if_neg (by omega)]
  rw [if_neg h2, Option.bind_some]
  by_cases h3 : byN q
  · rw [if_pos h3, if_neg (show ¬ wr 1 = 0 by decide), Option.bind_some]
    by_cases h4 : byN r
    · rw [if_pos h4, if_neg (show ¬ wr 1 = 0 by decide), Option.bind_some]
      by_cases h5 : byN t
      · rw [if_pos h5, if_neg (show ¬ wr 1 = 0 by decide), if_pos (show fdOk p q r t from ⟨⟨by omega, by omega⟩, h3, h4, h5⟩)]
        simp only [Option.bind_some, fX3_size]
        have a1 := xU_add q (h 19 1 + 1)
        have a2 := xU_add r (xU q (h 19 1 + 1))
        have a3 := xU_add t (xU r (xU q (h 19 1 + 1)))
        have b1 := xU_le q 0
        have b2 := xU_le r 0
        have b3 := xU_le t 0
        have e : h 19 1 + (1 + xU q 0 + xU r 0 + xU t 0) = fdN q r t (h 19 1) := by unfold fdN; omega
        rw [e, wr_of (z := fdN q r t (h 19 1)) (by unfold fdN; omega) (by unfold fdN; omega)]
        by_cases h6 : fdN q r t (h 19 1) ≤ 2000
        · rw [if_pos h6, if_pos h6]
          have h6' := h6
          unfold fdN at h6'
          have s1 : apT p h 19 1 = h 19 1 + 1 := by unfold apT; simp [hs_at]
          have s2 := apU_size q (apT p h)
          have s3 := apU_size r (apU q (apT p h))
          have s4 := apU_size t (apU r (apU q (apT p h)))
          rw [s1] at s2
          rw [s2] at s3
          rw [s3] at s4
          rw [pX3_append (by omega), Option.bind_some, pX5_apU h3 (by rw [s1]; omega), Option.bind_some, pX5_apU h4 (by rw [s2]; omega), Option.bind_some, pX5_apU h5 (by rw [s3]; omega), Option.bind_some, s4]
          rfl
        · rw [if_neg h6, if_neg h6]
      · rw [if_neg h5, if_pos wr_0, if_neg (fun e => h5 e.2.2.2)]
    · rw [if_neg h4, if_pos wr_0, if_neg (fun e => h4 e.2.2.1)]
  · rw [if_neg h3, if_pos wr_0, if_neg (fun e => h3 e.2.1)]
def fdT (p q r t : Int) (h : HS) : HS := hs (hs (hs (hz (hs h 39 (h 30 13) p) 91) 91 0 q) 91 1 r) 91 2 t
def fdM (p q r t : Int) (h : HS) : HS := mdU t (xU r (xU q (h 30 13 + 1))) (mdU r (xU q (h 30 13 + 1)) (mdU q (h 30 13 + 1) (fdT p q r t h)))
def fdE (p q r t : Int) (h : HS) : HS := hz (hs (fdM p q r t h) 30 13 (fdN q r t (h 30 13))) 91
theorem pX6_b87 {p q r t s0 s1 : Int} {h : HS} (hq : byN q) (hr : byN r) (ht : byN t) (hn : 0 ≤ h 30 13 ∧ h 30 13 ≤ 2000) (hs01 : h 30 13 + (s0 + s1) = fdN q r t (h 30 13)) : fX6_feed_b87 p q r t s0 s1 h = if fdN q r t (h 30 13) ≤ 2000 then some (fdN q r t (h 30 13), fdE p q r t h) else some (0, hs h 30 0 2) := by
  have a1 := xU_le q (h 30 13 + 1)
  have a2 := xU_le r (xU q (h 30 13 + 1))
  have a3 := xU_le t (xU r (xU q (h 30 13 + 1)))
  unfold fX6_feed_b87 fX6_fail
  rw [hs01, wr_of (z := fdN q r t (h 30 13)) (by unfold fdN; omega) (by unfold fdN; omega)]
  by_cases h1 : fdN q r t (h 30 13) ≤ 2000
  · rw [if_pos h1, if_pos h1]
    have h1' := h1
    unfold fdN at h1'
    have e0 : hs h 39 (h 30 13) p 30 13 = h 30 13 := by simp [hs_at]
    rw [if_pos (show 0 ≤ h 30 13 ∧ h 30 13 < 2000 by omega), if_pos (by omega), if_pos (by omega), if_pos (by omega), e0]
    show fX6_feed_L157 (4996 + 1 + 1 + 1 + 1) (h 30 13 + 1) 3 0 (fdT p q r t h) = _
    have v0 : fdT p q r t h 91 0 = q := by unfold fdT; simp [hs_at]
    have v1 : mdU q (h 30 13 + 1) (fdT p q r t h) 91 1 = r := by rw [mdU_at (by decide)]; unfold fdT; simp [hs_at]
    have v2 : mdU r (xU q (h 30 13 + 1)) (mdU q (h 30 13 + 1) (fdT p q r t h)) 91 2 = t := by rw [mdU_at (by decide), mdU_at (by decide)]; unfold fdT; simp [hs_at]
    rw [pX6_feedL (by omega) (by rw [v0]; exact hq) (by rw [v0]; omega), v0, Int.zero_add]
    rw [pX6_feedL (by omega) (by rw [v1]; exact hr) (by rw [v1]; omega), v1]
    rw [show (1 : Int) + 1 = 2 from rfl, pX6_feedL (by omega) (by rw [v2]; exact ht) (by rw [v2]; omega), v2]
    rw [show (2 : Int) + 1 = 3 from rfl, pX6_feedE]
    rfl
  · rw [if_neg h1, if_neg h1]
    rfl
theorem pX6_feed {p q r t : Int} {h : HS} (hp : zr p) (hq : zr q) (hr : zr r) (ht : zr t) (hn : 0 ≤ h 30 13 ∧ h 30 13 ≤ 2000) : fX6_feed p q r t h = if fdOk p q r t then (if fdN q r t (h 30 13) ≤ 2000 then some (fdN q r t (h 30 13), fdE p q r t (hs h 30 0 0)) else some (0, hs (hs h 30 0 0) 30 0 2)) else some (0, hs (hs h 30 0 0) 30 0 1) := by
  have z : hs h 30 0 0 30 13 = h 30 13 := by simp [hs_at]
  unfold fX6_feed fX6_feed_b50 fX6_fail
  rw [pX6_isIn hp (by unfold zr; omega) (by unfold zr; omega), pX6_isIn hq (by unfold zr; omega) (by unfold zr; omega), pX6_isIn hr (by unfold zr; omega) (by unfold zr; omega), pX6_isIn ht (by unfold zr; omega) (by unfold zr; omega), wr_of hq.1 hq.2, Option.bind_some]
  by_cases h1 : 0 ≤ p ∧ p ≤ 255
  · rw [if_pos h1, if_neg (show ¬ wr 1 = 0 by decide), Option.bind_some]
    by_cases h3 : byN q
    · rw [if_pos h3, if_neg (show ¬ wr 1 = 0 by decide), Option.bind_some]
      by_cases h4 : byN r
      · rw [if_pos h4, if_neg (show ¬ wr 1 = 0 by decide), Option.bind_some]
        by_cases h5 : byN t
        · rw [if_pos h5, if_neg (show ¬ wr 1 = 0 by decide), if_pos (show fdOk p q r t from ⟨h1, h3, h4, h5⟩)]
          have key : ∀ s0 s1 : Int, h 30 13 + (s0 + s1) = fdN q r t (h 30 13) → fX6_feed_b87 p q r t s0 s1 (hs h 30 0 0) = if fdN q r t (h 30 13) ≤ 2000 then some (fdN q r t (h 30 13), fdE p q r t (hs h 30 0 0)) else some (0, hs (hs h 30 0 0) 30 0 2) := by
            intro s0 s1 e
            have k := pX6_b87 (p := p) (s0 := s0) (s1 := s1) (h := hs h 30 0 0) h3 h4 h5 (by rw [z]; exact hn) (by rw [z]; exact e)
            rw [z] at k
            exact k
          unfold fX6_feed_b66 fX6_feed_b76
          rw [wr_of hr.1 hr.2, wr_of ht.1 ht.2]
          unfold fdN xU at key ⊢
          by_cases g1 : q = -1
          · rw [if_neg (by omega)]
            by_cases g2 : r = -1
            · rw [if_neg (by omega)]
              by_cases g3 : t = -1
              · rw [if_neg (by omega)]; exact key _ _ (by rw [if_pos g1, if_pos g2, if_pos g3]; omega)
              · rw [if_pos (by omega)]; exact key _ _ (by rw [if_pos g1, if_pos g2, if_neg g3]; omega)
            · rw [if_pos (by omega)]
              by_cases g3 : t = -1
              · rw [if_neg (by omega)]; exact key _ _ (by rw [if_pos g1, if_neg g2, if_pos g3]; omega)
              · rw [if_pos (by omega)]; exact key _ _ (by rw [if_pos g1, if_neg g2, if_neg g3]; omega)
          · rw [if_pos (by omega)]
            by_cases g2 : r = -1
            · rw [if_neg (by omega)]
              by_cases g3 : t = -1
              · rw [if_neg (by omega)]; exact key _ _ (by rw [if_neg g1, if_pos g2, if_pos g3]; omega)
              · rw [if_pos (by omega)]; exact key _ _ (by rw [if_neg g1, if_pos g2, if_neg g3]; omega)
            · rw [if_pos (by omega)]
              by_cases g3 : t = -1
              · rw [if_neg (by omega)]; exact key _ _ (by rw [if_neg g1, if_neg g2, if_pos g3]; omega)
              · rw [if_pos (by omega)]; exact key _ _ (by rw [if_neg g1, if_neg g2, if_neg g3]; omega)
        · rw [if_neg h5, if_pos wr_0, if_neg (fun e => h5 e.2.2.2)]
          rfl
      · rw [if_neg h4, if_pos wr_0, if_neg (fun e => h4 e.2.2.1)]
        rfl
    · rw [if_neg h3, if_pos wr_0, if_neg (fun e => h3 e.2.1)]
      rfl
  · rw [if_neg h1, if_pos wr_0, if_neg (fun e => h1 e.1)]
    rfl
end ZPURE5
