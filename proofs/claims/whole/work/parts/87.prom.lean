section ZPROM
/-! promote -/
theorem kid_prom {p a : Int} {h : HS} (hC : PsC h) {j : Nat} (ha0 : 0 ≤ a ∧ a < h 9 8) (hj : (j : Int) < h 15 a) (hk : kid h a j = p) : ∀ k : Nat, (k : Int) < h 15 a → kid (nProm p a j h) a k = if k = 0 then p else if k ≤ j then kid h a (k - 1) else kid h a k := by
  by_cases j0 : j = 0
  · subst j0
    intro k hk2
    have e : nProm p a 0 h = h := by unfold nProm; rw [if_pos rfl]
    rw [e]
    by_cases k0 : k = 0
    · rw [if_pos k0, k0, hk]
    · rw [if_neg k0, if_neg (by omega)]
  · have e16 : nProm p a j h 16 a = p := by
      unfold nProm
      rw [if_neg j0, hs_at, if_pos rfl, if_pos rfl]
    have e17 : ∀ i, nProm p a j h 17 i = if i = p then h 16 a else if i = kid h a (j - 1) then h 17 p else h 17 i := fun i => by
      unfold nProm
      rw [if_neg j0, hs_ne _ _ _ (by decide), hs_at, if_pos rfl, hs_at, if_pos rfl]
    have inj : ∀ k m : Nat, (k : Int) < h 15 a → (m : Int) < h 15 a → k ≠ m → kid h a k ≠ kid h a m := fun k m k1 m1 hn e => hn (hC.d a ha0.1 ha0.2 k m k1 m1 e)
    intro k
    induction k with
    | zero =>
      intro _
      exact e16
    | succ k ih =>
      intro hk2
      rw [if_neg (by omega), show k + 1 - 1 = k by omega]
      show nProm p a j h 17 (kid (nProm p a j h) a k) = _
      rw [ih (by omega), e17]
      by_cases k0 : k = 0
      · subst k0
        rw [if_pos rfl, if_pos rfl, if_pos (by omega)]
        rfl
      · rw [if_neg k0]
        by_cases kj : k ≤ j
        · rw [if_pos kj, if_neg (fun e => inj (k - 1) j (by omega) hj (by omega) (by rw [e, hk]))]
          by_cases kj1 : k = j
          · subst kj1
            rw [if_pos rfl, if_neg (by omega), ← hk]
            rfl
          · rw [if_neg (inj (k - 1) (j - 1) (by omega) (by omega) (by omega)), if_pos (by omega)]
            show kid h a (k - 1 + 1) = _
            rw [show k - 1 + 1 = k by omega]
        · rw [if_neg kj, if_neg (fun e => inj k j (by omega) hj (by omega) (by rw [e, hk])), if_neg (inj k (j - 1) (by omega) (by omega) (by omega)), if_neg (by omega)]
          rfl
theorem nProm_ne {p a : Int} {h : HS} {j : Nat} {c : Nat} (h16 : c ≠ 16) (h17 : c ≠ 17) : nProm p a j h c = h c := by
  unfold nProm
  by_cases j0 : j = 0
  · rw [if_pos j0]
  · rw [if_neg j0, hs_ne _ _ _ h16, hs_ne _ _ _ h17, hs_ne _ _ _ h17]
def prom38 (p a : Int) (j : Nat) (h : HS) : HS := hs (hcp h 38 (200 * a) 38 (200 * a + 1) (j : Int)) 38 (200 * a) p
theorem prom38_ne {p a : Int} {h : HS} {j : Nat} {c : Nat} (hc : c ≠ 38) : prom38 p a j h c = h c := by
  unfold prom38
  rw [hs_ne _ _ _ hc, hcp_ne _ _ _ _ _ hc]
theorem prom38_at {p a : Int} {h : HS} {j : Nat} {x : Int} : prom38 p a j h 38 x = if x = 200 * a then p else if 200 * a + 1 ≤ x ∧ x < 200 * a + 1 + j then h 38 (x - 1) else h 38 x := by
  unfold prom38
  rw [hs_at, if_pos rfl, hcp_eq]
  by_cases e : x = 200 * a
  · rw [if_pos e, if_pos e]
  · rw [if_neg e, if_neg e]
    show (if _ then _ else _) = _
    rw [show 200 * a + (x - (200 * a + 1)) = x - 1 by omega]
theorem prom_psi {p a : Int} {h : HS} {j : Nat} (w : Psi h) (hp : 1 ≤ p ∧ p < h 9 8) (ha : h 10 p = a) (ha0 : 0 ≤ a ∧ a < h 9 8) (hj : (j : Int) < h 15 a) (hk : kid h a j = p) : Psi (prom38 p a j (nProm p a j h)) := by
  obtain ⟨o, eo⟩ : ∃ o, o = prom38 p a j (nProm p a j h) := ⟨_, rfl⟩
  rw [← eo]
  have ne : ∀ c : Nat, ¬ (c = 16 ∨ c = 17 ∨ c = 38) → o c = h c := fun c hn => by rw [eo, prom38_ne (by omega), nProm_ne (by omega) (by omega)]
  have ek : ∀ i k, kid o i k = kid (nProm p a j h) i k := fun i k => kid_cg (fun i => by rw [eo, prom38_ne (by decide)]) (fun i => by rw [eo, prom38_ne (by decide)]) i k
  have e38 : ∀ x, o 38 x = if x = 200 * a then p else if 200 * a + 1 ≤ x ∧ x < 200 * a + 1 + j then h 38 (x - 1) else h 38 x := fun x => by rw [eo, prom38_at, nProm_ne (by decide) (by decide)]
  have ka := kid_prom w.C ha0 hj hk
  have n := w.R.n
  obtain ⟨g0, g1, g2, g3, g4⟩ := w.R.g a ha0.1 ha0.2
  refine ⟨w.T.cg (by rw [ne 19 (by decide)]) (by rw [ne 30 (by decide)]) (fun i => by rw [ne 39 (by decide)]) (fun i => by rw [ne 20 (by decide)]),
   w.E.cg (fun b b0 b1 => by rw [ne 0 (by decide)]) (fun b b0 b1 => by rw [ne 30 (by decide)]),
   w.B.cg (by rw [ne 1 (by decide)]) (by rw [ne 30 (by decide)]) (fun i => by rw [ne 35 (by decide)]) (fun i => by rw [ne 8 (by decide)]),
   w.K.cg (by rw [ne 1 (by decide)]) (by rw [ne 30 (by decide)]) (fun i => by rw [ne 31 (by decide)]) (fun i => by rw [ne 2 (by decide)]),
   w.S.cg (fun i => by rw [ne 32 (by decide)]) (fun i => by rw [ne 3 (by decide)]) (fun i => by rw [ne 33 (by decide)]) (fun i => by rw [ne 4 (by decide)]) (fun i => by rw [ne 5 (by decide)]) (fun i => by rw [ne 6 (by decide)]),
   w.R.cg (by rw [ne 9 (by decide)]) (by rw [ne 30 (by decide)]) (fun i => by rw [ne 37 (by decide)]) (fun i => by rw [ne 10 (by decide), ne 11 (by decide), ne 12 (by decide), ne 14 (by decide), ne 15 (by decide)]; exact ⟨rfl, rfl, rfl, rfl, rfl⟩),
   ⟨fun i i0 i1 k hk2 => ?_, fun i i0 i1 k k2 h1 h2 he => ?_⟩, fun q q0 q1 => ?_,
   w.P.cg (by rw [ne 0 (by decide)]) (by rw [ne 30 (by decide)]) (ne 9 (by decide)) (ne 10 (by decide)) (ne 11 (by decide)) (ne 12 (by decide)) (ne 13 (by decide)) (ne 14 (by decide)) (ne 34 (by decide)) (ne 8 (by decide)) (ne 35 (by decide)) (by rw [ne 1 (by decide)]; omega)⟩
  · rw [ne 9 (by decide)] at i1
    rw [ne 15 (by decide)] at hk2
    rw [ne 9 (by decide), ne 10 (by decide), ek, e38]
    obtain ⟨m0, m1, m2, m3, m4⟩ := w.R.g i i0 i1
    by_cases hi : i = a
    · subst hi
      rw [ka k hk2]
      by_cases k0 : k = 0
      · subst k0
        rw [if_pos rfl, if_pos (by omega)]
        exact ⟨by omega, rfl, ha⟩
      · have x0 : ¬ 200 * i + (k : Int) = 200 * i := by omega
        rw [if_neg k0, if_neg x0]
        by_cases kj : k ≤ j
        · obtain ⟨c1, c2, c3⟩ := w.C.c i i0 i1 (k - 1) (by omega)
          rw [if_pos kj, if_pos (by omega), show 200 * i + (k : Int) - 1 = 200 * i + ((k - 1 : Nat) : Int) by omega]
          exact ⟨c1, c2, c3⟩
        · rw [if_neg kj, if_neg (by omega)]
          exact w.C.c i i0 i1 k hk2
    · rw [kid_other w.C ha0 hj hk hi ⟨i0, i1⟩ k hk2, if_neg (by omega), if_neg (by omega)]
      exact w.C.c i i0 i1 k hk2
  · rw [ne 9 (by decide)] at i1
    rw [ne 15 (by decide)] at h1 h2
    rw [ek, ek] at he
    by_cases hi : i = a
    · subst hi
      rw [ka k h1, ka k2 h2] at he
      have key : ∀ m : Nat, (m : Int) < h 15 i → ∃ m2 : Nat, (m2 : Int) < h 15 i ∧ (if m = 0 then p else if m ≤ j then kid h i (m - 1) else kid h i m) = kid h i m2 ∧ m2 = (if m = 0 then j else if m ≤ j then m - 1 else m) := fun m hm => by
        by_cases m0 : m = 0
        · exact ⟨j, hj, by rw [if_pos m0, hk], by rw [if_pos m0]⟩
        · by_cases mj : m ≤ j
          · exact ⟨m - 1, by omega, by rw [if_neg m0, if_pos mj], by rw [if_neg m0, if_pos mj]⟩
          · exact ⟨m, hm, by rw [if_neg m0, if_neg mj], by rw [if_neg m0, if_neg mj]⟩
      obtain ⟨m1, a1, a2, a3⟩ := key k h1
      obtain ⟨m2, b1, b2, b3⟩ := key k2 h2
      rw [a2, b2] at he
      have em := w.C.d i i0 i1 m1 m2 a1 b1 he
      rw [a3, b3] at em
      by_cases k0 : k = 0
      · rw [if_pos k0] at em
        by_cases k20 : k2 = 0
        · omega
        · rw [if_neg k20] at em
          by_cases kj : k2 ≤ j
          · rw [if_pos kj] at em; omega
          · rw [if_neg kj] at em; omega
      · rw [if_neg k0] at em
        by_cases k20 : k2 = 0
        · rw [if_pos k20] at em
          by_cases kj : k ≤ j
          · rw [if_pos kj] at em; omega
          · rw [if_neg kj] at em; omega
        · rw [if_neg k20] at em
          by_cases kj : k ≤ j
          · rw [if_pos kj] at em
            by_cases kj2 : k2 ≤ j
            · rw [if_pos kj2] at em; omega
            · rw [if_neg kj2] at em; omega
          · rw [if_neg kj] at em
            by_cases kj2 : k2 ≤ j
            · rw [if_pos kj2] at em; omega
            · rw [if_neg kj2] at em; omega
    · rw [kid_other w.C ha0 hj hk hi ⟨i0, i1⟩ k h1, kid_other w.C ha0 hj hk hi ⟨i0, i1⟩ k2 h2] at he
      exact w.C.d i i0 i1 k k2 h1 h2 he
  · rw [ne 9 (by decide)] at q1
    obtain ⟨a1, m, a2, a3⟩ := w.A q q0 q1
    rw [ne 10 (by decide), ne 15 (by decide)]
    refine ⟨a1, ?_⟩
    by_cases hi : h 10 q = a
    · rw [hi] at a2 a3 ⊢
      rcases (show m = j ∨ m < j ∨ j < m by omega) with e | e | e
      · exact ⟨0, by omega, by rw [ek, ka 0 (by omega), if_pos rfl, ← hk, ← e, a3]⟩
      · exact ⟨m + 1, by omega, by rw [ek, ka (m + 1) (by omega), if_neg (by omega), if_pos (by omega), show m + 1 - 1 = m by omega, a3]⟩
      · exact ⟨m, a2, by rw [ek, ka m a2, if_neg (by omega), if_neg (by omega), a3]⟩
    · exact ⟨m, a2, by rw [ek, kid_other w.C ha0 hj hk hi ⟨a1.1, by omega⟩ m a2, a3]⟩
theorem qc_16 {p : Int} {h : HS} (hp : zr p) (w : Psi h) : ∃ o, fL_c16 p h = some o ∧ Psi o := by
  have eg : fL_c16 p h = gC (fL_promote p h) (fX6_promote p) := rfl
  have n := w.R.n
  have n2 := w.R.n2
  rw [eg]
  unfold fL_promote fX5_promote fX5_promote_b15
  rw [pX4_has hp n, wr_of hp.1 hp.2, Option.bind_some]
  have z8 : ∀ H : HS, H 30 8 = h 9 8 → hs H 30 0 0 30 8 = h 9 8 := fun H e => by rw [hs_at, if_pos rfl, if_neg (by decide), e]
  by_cases h1 : 1 ≤ p ∧ p < h 9 8
  · obtain ⟨⟨b1, b2⟩, j, b3, b4⟩ := w.A p h1.1 h1.2
    obtain ⟨a, ea⟩ : ∃ a, a = h 10 p := ⟨_, rfl⟩
    rw [← ea] at b1 b2 b3 b4
    have ha0 : 0 ≤ a ∧ a < h 9 8 := by omega
    obtain ⟨g0, g1, g2, g3, g4⟩ := w.R.g a ha0.1 ha0.2
    rw [if_pos (show 0 ≤ p ∧ p < h 9 8 by omega), if_neg (show ¬ wr 1 = 0 by decide), if_neg (show ¬ p = 0 by omega), pX4_makeMain w.R w.C h1 ea.symm ha0 b3 b4, Option.bind_some, Option.bind_some, if_pos rfl]
    obtain ⟨H, eH⟩ : ∃ H, H = hs (hs (nProm p a j h) 50 0 (wr (j : Int))) 30 0 0 := ⟨_, rfl⟩
    have Hne : ∀ c : Nat, c ≠ 30 → c ≠ 50 → c ≠ 16 → c ≠ 17 → H c = h c := fun c c1 c2 c3 c4 => by rw [eH, hs_ne _ _ _ c1, hs_ne _ _ _ c2, nProm_ne c3 c4]
    have hk : fX6_promote p (hs (nProm p a j h) 50 0 (wr (j : Int))) = some ((j : Int), prom38 p a j H) := by
      unfold fX6_promote
      rw [← eH]
      have e8 : H 30 8 = h 9 8 := by rw [eH, hs_at, if_pos rfl, if_neg (by decide), hs_ne _ _ _ (by decide), nProm_ne (by decide) (by decide), n2]
      rw [e8, pX6_isIn hp (by unfold zr; omega) (by unfold zr; omega), Option.bind_some, if_pos (show 1 ≤ p ∧ p ≤ h 9 8 - 1 by omega), if_neg (show ¬ wr 1 = 0 by decide), (pX6_get w (g := H) (Hne 37 (by decide) (by decide) (by decide) (by decide)) (q := p) (by omega)).1, Option.bind_some, ← ea]
      have e := pX6_prL (p := p) (a := a) (h := H) (by omega) (by omega) (j := j) (by omega) (fun k hk => by
        obtain ⟨c1, c2, c3⟩ := w.C.c a ha0.1 ha0.2 k (by omega)
        rw [Hne 38 (by decide) (by decide) (by decide) (by decide), c2]
        refine ⟨by omega, fun e => w.C.d a ha0.1 ha0.2 k j (by omega) b3 (by rw [e, b4]), fun e => by rw [e, b4]⟩) zF 0 (Nat.zero_le _) (by unfold zF; omega)
      exact e
    refine ⟨_, gC_ok hk (by show zr (j : Int); unfold zr; omega) rfl (by rw [prom38_ne (by decide), eH, hs_self]) (by rw [prom38_ne (by decide), eH, hs_ne _ _ _ (by decide), hs_self]), ?_⟩
    refine (prom_psi w h1 ea.symm ha0 b3 b4).sq (fun c b hn => ?_)
    have c50 : c ≠ 50 := fun k => hn (Or.inl (by omega))
    by_cases c38 : c = 38
    · subst c38
      rw [prom38_at, prom38_at, eH, hs_ne _ _ _ (by decide), hs_ne _ _ _ (by decide)]
    · rw [prom38_ne c38, prom38_ne c38, eH]
      by_cases c30 : c = 30
      · subst c30
        rw [hs_at, if_pos rfl, if_neg (fun k => hn (Or.inr (Or.inr ⟨rfl, Or.inl k⟩))), hs_ne _ _ _ (by decide)]
      · rw [hs_ne _ _ _ c30, hs_ne _ _ _ c50]
  · have e7 : fX6_promote p h = some (0, hs (hs h 30 0 0) 30 0 1) := by
      unfold fX6_promote fX6_fail
      rw [z8 h n2, pX6_isIn hp (by unfold zr; omega) (by unfold zr; omega), Option.bind_some, if_neg (show ¬ (1 ≤ p ∧ p ≤ h 9 8 - 1) by omega), if_pos wr_0]
      rfl
    have e5 : (if wr (if 0 ≤ p ∧ p < h 9 8 then 1 else 0) = 0 then some ((1, 0, h) : Int × Int × HS) else if p = 0 then some (1, 0, h) else (fX4_makeMain p h).bind fun r2 => some (0, r2.1, r2.2)) = some (1, 0, h) := by
      by_cases h2 : 0 ≤ p ∧ p < h 9 8
      · rw [if_pos h2, if_neg (show ¬ wr 1 = 0 by decide), if_pos (by omega)]
      · rw [if_neg h2, if_pos wr_0]
    rw [e5, Option.bind_some, if_neg (show ¬ (1 : Int) = 0 by decide), if_pos rfl]
    exact ⟨_, gC_thr (k := fX6_promote p) e7 ⟨by unfold zr; omega, by decide⟩ (by simp [hs_at]), w.sq ((zsq.rf.h30 _).h30 _)⟩
end ZPROM
