section ZTOLD
/-! the present position: turn, why, what state tells -/
def kOf (h : HS) : KT := (h 3, h 4, h 5, h 6)
theorem PsiC.gg {h : HS} (w : PsiC h) : gd (kOf h) (h 1 5) (h 8) := ⟨w.K.1, fun s s0 s1 => by
  rw [w.P.b s s0 s1]
  exact w.P.rg w.R (h 0 8).toNat (h 0 8) (by have := w.P.n; omega) w.P.n.1 w.P.n.2 s s0 s1, w.S.1, w.S.2⟩
theorem Psi.gg {h : HS} (w : Psi h) : gd (kOf h) (h 1 5) (h 8) := w.cc.gg
theorem Psi.cs {h : HS} : cSt (kOf h) (h 1 5) (h 8) h := ⟨rfl, fun _ _ _ => rfl, fun _ _ _ => rfl, fun _ _ _ _ _ _ => ⟨rfl, rfl, rfl⟩⟩
theorem Psi.ms {h h6 : HS} (w : Psi h) (e : zqm h6 h) : mSt 35 (kOf h) (h 8) h6 := ⟨fun s s0 s1 => by rw [e.c (a := 35) (by decide)]; exact (w.B.sq s s0 s1).1, fun i i0 i1 => by rw [e.c (a := 32) (by decide)]; exact (w.S.c i i0 i1).1, fun i j i0 i1 j0 j1 => by
  obtain ⟨a1, a2, a3, -⟩ := w.S.s i j i0 i1 j0 j1
  rw [e.c (a := 33) (by decide)]
  exact ⟨a1, a2, a3⟩⟩
def trn (h : HS) : Int := h 14 (h 0 8) % 2
theorem trn_01 {h : HS} : trn h = 0 ∨ trn h = 1 := by unfold trn; omega
theorem pX4_depth {p : Int} {h : HS} (hR : PcR h) (h1 : 0 ≤ p ∧ p < h 9 8) : fX4_depth p h = some (h 14 p) := by
  have n := hR.n
  unfold fX4_depth
  exact pX4_row (by unfold zr; omega) n h1
theorem pX5_turn {h : HS} (w : PsiC h) : fX5_turn h = some (trn h) := by
  have n := w.P.n
  have d := w.P.dp w.R (h 0 8) n.1 n.2
  unfold fX5_turn
  rw [pX4_depth w.R n, Option.bind_some, if_pos (by omega)]
  rfl
theorem pX6_turn {h h6 : HS} (w : Psi h) (e : zqm h6 h) : fX6_turn h6 = some (trn h) := by
  have n := w.P.n
  have d := w.P.dp w.R (h 0 8) n.1.1 n.1.2
  have n1 := w.R.n
  unfold fX6_turn fX6_get
  rw [e.c30 (b := 9) (by decide), n.2, if_pos (by omega), e.c (a := 37) (by decide), Option.bind_some, (w.R.f (h 0 8) n.1.1 n.1.2).2.2.2.1, if_pos (by omega)]
  rfl
def whyV (h : HS) (f t : Int) : Int := if sdOf (h 8 f) = trn h then (if hit (kOf h) (h 8) f t = true then (if lgl (kOf h) (h 8) f t = true then 0 else 3) else 2) else 1
theorem whyV_rg {h : HS} {f t : Int} : 0 ≤ whyV h f t ∧ whyV h f t ≤ 3 := by
  unfold whyV
  split
  · split
    · split <;> omega
    · omega
  · omega
theorem pX5_why {h : HS} (w : Psi h) {f t : Int} (hf : 0 ≤ f ∧ f < 64) (ht : 0 ≤ t ∧ t < 64) : fX5_reasonAgainst f t h = some (whyV h f t, h) := by
  obtain ⟨v1, v2⟩ := w.gg.2.1 f hf.1 hf.2
  have n0 := w.gg.1
  have t0 := trn_01 (h := h)
  unfold fX5_reasonAgainst fX0_isOf fX0_isTaken whyV
  rw [pX5_turn w.cc, cX0_piece hf, Option.bind_some, Option.bind_some, Option.bind_some, wr_of (z := h 8 f) (by omega) (by omega)]
  by_cases hv : h 8 f = -1
  · rw [if_pos hv, Option.bind_some, if_pos wr_0, Option.bind_some, if_pos wr_0, hv, sdOf_m, if_neg (by omega)]
  · have hs := sdOf_01 (v := h 8 f) (by omega)
    rw [if_neg hv, Option.bind_some, if_neg (show ¬ wr 1 = 0 by decide), if_pos (by omega), wr_of (z := h 8 f % 2) (by omega) (by omega), wr_of (z := trn h) (by omega) (by omega), hs.1]
    by_cases hm : h 8 f % 2 = trn h
    · rw [if_pos hm, if_pos hm, Option.bind_some, if_neg (show ¬ wr 1 = 0 by decide), ucX0_reaches w.gg Psi.cs hf (by omega) ht, Option.bind_some]
      by_cases hh : hit (kOf h) (h 8) f t = true
      · rw [if_pos hh, if_pos hh, if_neg (show ¬ wr 1 = 0 by decide), cX0_safe w.gg Psi.cs hf ht (by omega), Option.bind_some]
        by_cases hg : lgl (kOf h) (h 8) f t = true
        · simp only [if_pos hg, if_neg (show ¬ wr 1 = 0 by decide)]
        · simp only [if_neg hg, if_pos wr_0]
      · rw [if_neg hh, if_neg hh, if_pos wr_0]
    · rw [if_neg hm, if_neg hm, Option.bind_some, if_pos wr_0]
theorem pX6_why {h h6 : HS} (w : Psi h) (e : zqm h6 h) {f t : Int} (hf : 0 ≤ f ∧ f < 64) (ht : 0 ≤ t ∧ t < 64) : ∃ h7, fX6_why f t h6 = some (whyV h f t, h7) ∧ fr36 h7 h6 := by
  obtain ⟨v1, v2⟩ := w.gg.2.1 f hf.1 hf.2
  have n0 := w.gg.1
  have t0 := trn_01 (h := h)
  have m := w.ms e
  have hr := sdOf_rg v1
  unfold fX6_why whyV
  rw [if_pos hf, m.1 f hf.1 hf.2, mX6_side (by omega), pX6_turn w e, Option.bind_some, Option.bind_some, wr_of (z := sdOf (h 8 f)) (by omega) (by omega), wr_of (z := trn h) (by omega) (by omega)]
  by_cases hm : sdOf (h 8 f) = trn h
  · have hb : 0 ≤ h 8 f := by
      rcases (show h 8 f = -1 ∨ 0 ≤ h 8 f by omega) with k | k
      · rw [k, sdOf_m] at hm; omega
      · exact k
    rw [if_pos hm, if_pos hm, umX6_reaches w.gg m hf ht hb, Option.bind_some]
    by_cases hh : hit (kOf h) (h 8) f t = true
    · obtain ⟨h7, e7, f7⟩ := mX6_legal w.gg m hf ht hb
      rw [if_pos hh, if_pos hh, if_neg (show ¬ wr 1 = 0 by decide), e7, Option.bind_some]
      refine ⟨h7, ?_, f7⟩
      by_cases hg : lgl (kOf h) (h 8) f t = true
      · simp only [if_pos hg, if_neg (show ¬ wr 1 = 0 by decide)]
      · simp only [if_neg hg, if_pos wr_0]
    · rw [if_neg hh, if_neg hh, if_pos wr_0]
      exact ⟨h6, rfl, fun _ _ => rfl⟩
  · rw [if_neg hm, if_neg hm]
    exact ⟨h6, rfl, fun _ _ => rfl⟩
theorem zsq.h50 {o h : HS} (e : zsq o h) (k v : Int) : zsq (hs o 50 k v) h := e.upd (Or.inl (Or.inl rfl))
theorem zsq.h30 {o h : HS} (e : zsq o h) (v : Int) : zsq (hs o 30 0 v) h := e.upd (Or.inr (Or.inr ⟨rfl, Or.inl rfl⟩))
theorem pX5_reason {h : HS} (w : Psi h) {f t : Int} (hf : zr f) (ht : zr t) : fX5_reason f t h = if (0 ≤ f ∧ f < 64) ∧ 0 ≤ t ∧ t < 64 then some (0, whyV h f t, h) else some (1, 0, h) := by
  unfold fX5_reason fX5_reason_b14
  rw [fX5_isSq hf, fX5_isSq ht, Option.bind_some, Option.bind_some]
  by_cases h1 : 0 ≤ f ∧ f < 64
  · rw [if_pos h1, if_neg (show ¬ wr 1 = 0 by decide)]
    by_cases h2 : 0 ≤ t ∧ t < 64
    · rw [if_pos h2, if_neg (show ¬ wr 1 = 0 by decide), pX5_why w h1 h2, Option.bind_some, if_pos ⟨h1, h2⟩]
    · rw [if_neg h2, if_pos wr_0, if_neg (fun e => h2 e.2)]
  · rw [if_neg h1, if_pos wr_0, if_neg (fun e => h1 e.1)]
theorem pX6_reason {h h6 : HS} (w : Psi h) (e : zsq h6 h) {f t : Int} (hf : zr f) (ht : zr t) : ∃ h7, fX6_reason f t h6 = (if (0 ≤ f ∧ f < 64) ∧ 0 ≤ t ∧ t < 64 then some (whyV h f t, h7) else some (0, hs h7 30 0 1)) ∧ fr36 h7 (hs h6 30 0 0) := by
  unfold fX6_reason fX6_reason_b28 fX6_fail
  rw [fX6_isSq hf, fX6_isSq ht]
  simp only [Option.bind_some]
  by_cases h1 : 0 ≤ f ∧ f < 64
  · rw [if_pos h1, if_neg (show ¬ wr 1 = 0 by decide)]
    by_cases h2 : 0 ≤ t ∧ t < 64
    · obtain ⟨h7, e7, f7⟩ := pX6_why w (e.h30 0).qm h1 h2
      refine ⟨h7, ?_, f7⟩
      rw [if_pos h2, if_neg (show ¬ wr 1 = 0 by decide), e7, Option.bind_some, if_pos ⟨h1, h2⟩]
    · refine ⟨hs h6 30 0 0, ?_, fun _ _ => rfl⟩
      rw [if_neg h2, if_pos wr_0, if_neg (fun e => h2 e.2)]
  · refine ⟨hs h6 30 0 0, ?_, fun _ _ => rfl⟩
    rw [if_neg h1, if_pos wr_0, if_neg (fun e => h1 e.1)]
theorem qc_5 {f t : Int} {h : HS} (hf : zr f) (ht : zr t) (w : Psi h) : ∃ o, fL_c5 f t h = some o ∧ Psi o := by
  have eg : fL_c5 f t h = gC (fL_reason f t h) (fX6_reason f t) := rfl
  have r0 := whyV_rg (h := h) (f := f) (t := t)
  rw [eg]
  unfold fL_reason
  rw [pX5_reason w hf ht]
  by_cases h1 : (0 ≤ f ∧ f < 64) ∧ 0 ≤ t ∧ t < 64
  · obtain ⟨h7, e7, f7⟩ := pX6_reason w (zsq.rf.h50 0 (wr (whyV h f t))) hf ht
    rw [if_pos h1] at e7 ⊢
    rw [Option.bind_some, if_pos rfl]
    exact ⟨h7, gC_ok e7 (by show zr (whyV h f t); unfold zr; omega) rfl (by rw [f7 30 (by decide)]; simp [hs_at]) (by rw [f7 50 (by decide)]; simp [hs_at]), w.sq (f7.sq.tr ((zsq.rf.h50 _ _).h30 _))⟩
  · obtain ⟨h7, e7, f7⟩ := pX6_reason w zsq.rf hf ht
    rw [if_neg h1] at e7 ⊢
    rw [Option.bind_some, if_neg (show ¬ (1 : Int) = 0 by decide), if_pos rfl]
    exact ⟨_, gC_thr e7 ⟨by unfold zr; omega, by decide⟩ (by simp [hs_at]), w.sq ((f7.sq.tr (zsq.rf.h30 _)).h30 _)⟩
def stV (h : HS) (p : Int) : Int := if p = 0 then trn h else if p = 1 then (if chk (kOf h) (h 8) (trn h) = true then 1 else 0) else if p = 2 then ((min 4096 (cnt (kOf h) (h 8) (trn h)) : Nat) : Int) else if p = 3 then h 0 8 else if p = 4 then h 9 8 else if p = 5 then h 1 5 else h 19 1
theorem stV_rg {h : HS} (w : Psi h) (p : Int) : zr (stV h p) := by
  have t0 := trn_01 (h := h)
  have n0 := w.P.n
  have n1 := w.R.n
  have n2 := w.B.nk
  have n3 := w.T.n
  unfold stV zr
  split
  · omega
  · split
    · split <;> omega
    · split
      · omega
      · split
        · omega
        · split
          · omega
          · split <;> omega
theorem pX5_state_x {h : HS} (w : Psi h) {p : Int} (hp : 0 ≤ p ∧ p ≤ 6) : fX5_state_x p h = some (stV h p, h) := by
  have t0 := trn_01 (h := h)
  unfold fX5_state_x stV fX4_size fX1_size fX3_size
  rw [wr_of (z := p) (by omega) (by omega), pX5_turn w.cc]
  by_cases k0 : p = 0
  · rw [if_pos k0, if_pos k0]; rfl
  rw [if_neg k0, if_neg k0]
  by_cases k1 : p = 1
  · rw [if_pos k1, if_pos k1, Option.bind_some, cX0_check w.gg Psi.cs t0, Option.bind_some]
    by_cases hk : chk (kOf h) (h 8) (trn h) = true
    · rw [if_pos hk, if_neg (show ¬ wr 1 = 0 by decide)]
    · rw [if_neg hk, if_pos wr_0]
  rw [if_neg k1, if_neg k1]
  by_cases k2 : p = 2
  · have e : fX0_countLegalMoves (trn h) 4096 h = some (((min 4096 (cnt (kOf h) (h 8) (trn h)) : Nat) : Int), h) := cX0_count w.gg Psi.cs t0 (lim := 4096) (by omega)
    rw [if_pos k2, if_pos k2, Option.bind_some, e, Option.bind_some]
  rw [if_neg k2, if_neg k2]
  by_cases k3 : p = 3
  · rw [if_pos k3, if_pos k3]
  rw [if_neg k3, if_neg k3]
  by_cases k4 : p = 4
  · rw [if_pos k4, if_pos k4]; rfl
  rw [if_neg k4, if_neg k4]
  by_cases k5 : p = 5
  · rw [if_pos k5, if_pos k5]; rfl
  rw [if_neg k5, if_neg k5, if_pos (by omega)]
  rfl
theorem pX5_state {h : HS} (w : Psi h) {p : Int} (hp : zr p) : fX5_state p h = if 0 ≤ p ∧ p ≤ 6 then some (0, stV h p, h) else some (1, 0, h) := by
  by_cases h1 : 0 ≤ p ∧ p ≤ 6
  · have e := pX5_state_x w h1
    rw [if_pos h1]
    unfold fX5_state_x at e
    unfold fX5_state
    rw [wr_of hp.1 hp.2] at e ⊢
    by_cases k0 : p = 0
    · rw [if_pos k0] at e ⊢
      rw [pX5_turn w.cc] at e ⊢
      exact congrArg (fun o : Option (Int × HS) => o.map fun q => ((0 : Int), q.1, q.2)) e
    rw [if_neg k0] at e ⊢
    by_cases k1 : p = 1
    · rw [if_pos k1] at e ⊢
      rw [pX5_turn w.cc, Option.bind_some, cX0_check w.gg Psi.cs trn_01, Option.bind_some] at e ⊢
      by_cases hk : chk (kOf h) (h 8) (trn h) = true
      · rw [if_pos hk, if_neg (show ¬ wr 1 = 0 by decide)] at e ⊢
        exact congrArg (fun o : Option (Int × HS) => o.map fun q => ((0 : Int), q.1, q.2)) e
      · rw [if_neg hk, if_pos wr_0] at e ⊢
        exact congrArg (fun o : Option (Int × HS) => o.map fun q => ((0 : Int), q.1, q.2)) e
    rw [if_neg k1] at e ⊢
    by_cases k2 : p = 2
    · have e3 : fX0_countLegalMoves (trn h) 4096 h = some (((min 4096 (cnt (kOf h) (h 8) (trn h)) : Nat) : Int), h) := cX0_count w.gg Psi.cs trn_01 (lim := 4096) (by omega)
      rw [if_pos k2] at e ⊢
      rw [pX5_turn w.cc, Option.bind_some, e3, Option.bind_some] at e ⊢
      exact congrArg (fun o : Option (Int × HS) => o.map fun q => ((0 : Int), q.1, q.2)) e
    rw [if_neg k2] at e ⊢
    by_cases k3 : p = 3
    · rw [if_pos k3] at e ⊢
      exact congrArg (fun o : Option (Int × HS) => o.map fun q => ((0 : Int), q.1, q.2)) e
    rw [if_neg k3] at e ⊢
    by_cases k4 : p = 4
    · rw [if_pos k4] at e ⊢
      exact congrArg (fun o : Option (Int × HS) => o.map fun q => ((0 : Int), q.1, q.2)) e
    rw [if_neg k4] at e ⊢
    by_cases k5 : p = 5
    · rw [if_pos k5] at e ⊢
      exact congrArg (fun o : Option (Int × HS) => o.map fun q => ((0 : Int), q.1, q.2)) e
    have k6 : p = 6 := by omega
    rw [if_neg k5, if_pos k6] at e ⊢
    exact congrArg (fun o : Option (Int × HS) => o.map fun q => ((0 : Int), q.1, q.2)) e
  · rw [if_neg h1]
    unfold fX5_state
    rw [wr_of hp.1 hp.2, if_neg (by omega), if_neg (by omega), if_neg (by omega), if_neg (by omega), if_neg (by omega), if_neg (by omega), if_neg (by omega)]
theorem pX6_told {h h6 : HS} (w : Psi h) (e : zsq h6 h) {p : Int} (hp : 0 ≤ p ∧ p ≤ 6) : ∃ h7, fX6_stateTold p h6 = some (stV h p, h7) ∧ fr36 h7 h6 := by
  have t0 := trn_01 (h := h)
  have m := w.ms e.qm
  unfold fX6_stateTold stV
  rw [wr_of (z := p) (by omega) (by omega), pX6_turn w e.qm]
  by_cases k0 : p = 0
  · rw [if_pos k0, if_pos k0]; exact ⟨h6, rfl, fun _ _ => rfl⟩
  rw [if_neg k0, if_neg k0]
  by_cases k1 : p = 1
  · rw [if_pos k1, if_pos k1, Option.bind_some, mX6_check w.gg m t0, Option.bind_some]
    by_cases hk : chk (kOf h) (h 8) (trn h) = true
    · rw [if_pos hk, if_neg (show ¬ wr 1 = 0 by decide)]; exact ⟨h6, rfl, fun _ _ => rfl⟩
    · rw [if_neg hk, if_pos wr_0]; exact ⟨h6, rfl, fun _ _ => rfl⟩
  rw [if_neg k1, if_neg k1]
  by_cases k2 : p = 2
  · obtain ⟨h7, e7, f7⟩ := mX6_count w.gg m t0 (lim := 4096) (by omega)
    have e8 : fX6_legalMoves (trn h) 4096 h6 = some (((min 4096 (cnt (kOf h) (h 8) (trn h)) : Nat) : Int), h7) := e7
    rw [if_pos k2, if_pos k2, Option.bind_some, e8, Option.bind_some]
    exact ⟨h7, rfl, f7⟩
  rw [if_neg k2, if_neg k2]
  by_cases k3 : p = 3
  · rw [if_pos k3, if_pos k3, e.c30 (by decide), w.P.n.2]; exact ⟨h6, rfl, fun _ _ => rfl⟩
  rw [if_neg k3, if_neg k3]
  by_cases k4 : p = 4
  · rw [if_pos k4, if_pos k4, e.c30 (by decide), w.R.n2]; exact ⟨h6, rfl, fun _ _ => rfl⟩
  rw [if_neg k4, if_neg k4]
  by_cases k5 : p = 5
  · rw [if_pos k5, if_pos k5, e.c30 (by decide), w.B.nk2]; exact ⟨h6, rfl, fun _ _ => rfl⟩
  rw [if_neg k5, if_neg k5, e.c30 (by decide), w.T.n2]
  exact ⟨h6, rfl, fun _ _ => rfl⟩
theorem qc_4 {p : Int} {h : HS} (hp : zr p) (w : Psi h) : ∃ o, fL_c4 p h = some o ∧ Psi o := by
  have eg : fL_c4 p h = gC (fL_state p h) (fX6_state p) := rfl
  have r0 := stV_rg w p
  rw [eg]
  unfold fL_state
  rw [pX5_state w hp]
  by_cases h1 : 0 ≤ p ∧ p ≤ 6
  · obtain ⟨h7, e7, f7⟩ := pX6_told w ((zsq.rf.h50 0 (wr (stV h p))).h30 0) h1
    rw [if_pos h1, Option.bind_some, if_pos rfl]
    refine ⟨h7, gC_ok (v1 := stV h p) ?_ r0 rfl (by rw [f7 30 (by decide)]; simp [hs_at]) (by rw [f7 50 (by decide)]; simp [hs_at]), w.sq (f7.sq.tr ((zsq.rf.h50 _ _).h30 _))⟩
    unfold fX6_state
    rw [pX6_isIn hp (by unfold zr; omega) (by unfold zr; omega), Option.bind_some, if_pos h1, if_neg (show ¬ wr 1 = 0 by decide)]
    show (fX6_stateTold p (hs (hs h 50 0 (wr (stV h p))) 30 0 0)).bind _ = _
    rw [e7, Option.bind_some]
  · rw [if_neg h1, Option.bind_some, if_neg (show ¬ (1 : Int) = 0 by decide), if_pos rfl]
    refine ⟨_, gC_thr (v1 := 0) (h2 := hs (hs h 30 0 0) 30 0 1) ?_ ⟨by unfold zr; omega, by decide⟩ (by simp [hs_at]), w.sq ((zsq.rf.h30 _).h30 _)⟩
    show fX6_state p h = _
    unfold fX6_state fX6_fail
    rw [pX6_isIn hp (by unfold zr; omega) (by unfold zr; omega), Option.bind_some, if_neg h1, if_pos wr_0]
    rfl
end ZTOLD
