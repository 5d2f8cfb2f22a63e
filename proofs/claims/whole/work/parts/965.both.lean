section ZBOTH
abbrev frJ (g1 g : HS) : Prop := (∀ a : Nat, a ≠ 36 → a ≠ 30 → g1 a = g a) ∧ (∀ b : Int, b ≠ 19 → g1 30 b = g 30 b)
theorem frJ_rf {g : HS} : frJ g g := ⟨fun _ _ _ => rfl, fun _ _ => rfl⟩
theorem frJ_tr {g2 g1 g : HS} (a : frJ g2 g1) (b : frJ g1 g) : frJ g2 g := ⟨fun i h1 h2 => by rw [a.1 i h1 h2, b.1 i h1 h2], fun i h1 => by rw [a.2 i h1, b.2 i h1]⟩
theorem fr36.J {g1 g : HS} (f : fr36 g1 g) : frJ g1 g := ⟨fun a h1 _ => f a h1, fun b _ => by rw [f 30 (by decide)]⟩
theorem frJ.qm {g1 g : HS} (f : frJ g1 g) : zqm g1 g := fun a b ha hn => by
  by_cases a30 : a = 30
  · subst a30
    exact f.2 b (fun k => hn (Or.inr (Or.inr ⟨rfl, by omega⟩)))
  · rw [f.1 a (fun k => hn (Or.inl (by omega))) a30]
theorem tab_rg : ∀ k : Fin 16, (0 ≤ tFf.getD k.val 0 ∧ tFf.getD k.val 0 < 6) ∧ (0 ≤ tLf.getD k.val 0 ∧ tLf.getD k.val 0 < 6) ∧ (0 ≤ tFr.getD k.val 0 ∧ tFr.getD k.val 0 < 6) ∧ (0 ≤ tLr.getD k.val 0 ∧ tLr.getD k.val 0 < 6) ∧ (-1 ≤ tLx.getD k.val 0 ∧ tLx.getD k.val 0 < 6 ∧ tLx.getD k.val 0 < ((frm k.val).length : Int)) ∧ (-1 ≤ tLs.getD k.val 0 ∧ tLs.getD k.val 0 < 6) := by decide +kernel
theorem lateX {k : Nat} (hk : k < 16) {F : Int → Int} {r : List Int} (fo : fldOk F r k) (hr : byL r) (hl2 : r.length = (frm k).length) {b0 : Int} (hb : 0 ≤ b0) (hl : b0 + 1 + r.length ≤ 2000) {g : HS} (t : tpL (g 39) (b0 + 1) r) (e18 : g 30 18 = k) : ∃ v, fX6_late b0 120 g = some v ∧ (-1 ≤ v ∧ v ≤ 255) ∧ (if v = -1 then F 7 = 0 else F 7 = 1) := by
  obtain ⟨t1, t2, t3, t4, t5, t6⟩ := tab_rg ⟨k, hk⟩
  obtain ⟨z1, z2, z3, z4, z5, z6⟩ := ix_z ⟨k, hk⟩
  obtain ⟨-, -, -, f7, -⟩ := fo
  dsimp only at t5 z5
  by_cases q : tLx.getD k 0 = -1
  · rw [if_pos q] at f7
    exact ⟨-1, umX6_late hk hb hl t e18 z5 ⟨t5.1, t5.2.1⟩ (Or.inl ⟨q, rfl⟩), by omega, by rw [if_pos rfl]; exact f7⟩
  · rw [if_neg q] at f7
    have hi : (tLx.getD k 0).toNat < r.length := by omega
    have e := List.getElem?_eq_getElem hi
    have rv := hr _ (List.getElem_mem hi)
    exact ⟨_, umX6_late hk hb hl t e18 z5 ⟨t5.1, t5.2.1⟩ (Or.inr ⟨by omega, e⟩), by omega, by rw [if_neg (by omega)]; exact f7⟩
theorem lateS {k : Nat} (hk : k < 16) {F : Int → Int} {r : List Int} (fo : fldOk F r k) {b0 : Int} (hb : 0 ≤ b0) (hl : b0 + 1 + r.length ≤ 2000) {g : HS} (t : tpL (g 39) (b0 + 1) r) (e18 : g 30 18 = k) : fX6_late b0 115 g = some (F 6) := by
  obtain ⟨t1, t2, t3, t4, t5, t6⟩ := tab_rg ⟨k, hk⟩
  obtain ⟨z1, z2, z3, z4, z5, z6⟩ := ix_z ⟨k, hk⟩
  obtain ⟨-, -, -, -, f6, -⟩ := fo
  dsimp only at t6 z6
  by_cases q : tLs.getD k 0 = -1
  · rw [if_pos q] at f6
    exact umX6_late hk hb hl t e18 z6 t6 (Or.inl ⟨q, f6⟩)
  · rw [if_neg q] at f6
    exact umX6_late hk hb hl t e18 z6 t6 (Or.inr ⟨by omega, f6⟩)
theorem jL89 {V : HS} (w : Psi V) {k : Nat} (hk : k < 16) {F : Int → Int} {r : List Int} (fo : fldOk F r k) (fr0 : fRg F) (hr : byL r) (hl2 : r.length = (frm k).length) {b0 : Int} (hb : 0 ≤ b0) (hl : b0 + 1 + r.length ≤ 2000) (t : tpL (V 39) (b0 + 1) r) {kd : Int} (hkd : 0 ≤ kd ∧ kd < 6) : ∀ (nf j : Nat) (a cc : Int) (g : HS), zqm g V → g 30 18 = k → g 30 20 = F 5 * 8 + F 4 → (0 ≤ a ∧ a ≤ j) → (0 ≤ cc ∧ cc ≤ j) → (cc = 0 ∨ ((0 ≤ g 30 19 ∧ g 30 19 < 64) ∧ V 8 (g 30 19) = 2 * kd + trn V)) → j ≤ 64 → 64 - j < nf → ∃ g1, fX6_readMove_L89 nf b0 kd (if F 2 = -1 then -1 else F 2 + 97) (if F 3 = -1 then -1 else F 3 + 49) a cc (j : Int) g = some (jdE (kOf V) (V 8) F (jdF (jCn (kOf V) (V 8) (2 * kd + trn V) F) (jLg (kOf V) (V 8) F) (64 - j) j (a, cc, g 30 19)), g1) ∧ frJ g1 g ∧ (jdE (kOf V) (V 8) F (jdF (jCn (kOf V) (V 8) (2 * kd + trn V) F) (jLg (kOf V) (V 8) F) (64 - j) j (a, cc, g 30 19)) = 0 → g1 30 19 = (jdF (jCn (kOf V) (V 8) (2 * kd + trn V) F) (jLg (kOf V) (V 8) F) (64 - j) j (a, cc, g 30 19)).2.2)
  | 0, j, a, cc, g, e, e18, e20, ha, hc, hfr, h1, h2 => by omega
  | nf + 1, j, a, cc, g, e, e18, e20, ha, hc, hfr, h1, h2 => by
    have n0 := w.gg.1
    have t0 := trn_01 (h := V)
    obtain ⟨r4, r5, r2, r3, r6, r7⟩ := fr0
    obtain ⟨to, eto⟩ : ∃ to, to = F 5 * 8 + F 4 := ⟨_, rfl⟩
    have hto : 0 ≤ to ∧ to < 64 := by omega
    obtain ⟨t1, t2⟩ := w.gg.2.1 to hto.1 hto.2
    have m := w.ms e
    have tg : tpL (g 39) (b0 + 1) r := by rw [e.c (a := 39) (by decide)]; exact t
    rw [fX6_readMove_L89]
    unfold fX6_readMove_b133 fX6_readMove_b152 fX6_readMove_b173 fX6_readMove_b174 fX6_readMove_b212
    rw [wr_of (z := (j : Int)) (by omega) (by omega), wr_of (z := cc) (by omega) (by omega), wr_of (z := a) (by omega) (by omega)]
    by_cases hj : (64 : Int) ≤ (j : Int)
    · rw [if_pos hj, show 64 - j = 0 by omega]
      show ∃ g1, _ = some (jdE (kOf V) (V 8) F (a, cc, g 30 19), g1) ∧ frJ g1 g ∧ (jdE (kOf V) (V 8) F (a, cc, g 30 19) = 0 → g1 30 19 = g 30 19)
      unfold jdE
      rw [← eto]
      dsimp only
      by_cases q1 : cc = 1
      · have hfr2 : (0 ≤ g 30 19 ∧ g 30 19 < 64) ∧ V 8 (g 30 19) = 2 * kd + trn V := by
          rcases hfr with k | k
          · omega
          · exact k
        obtain ⟨vx, ex, rx, fx⟩ := lateX hk fo hr hl2 hb hl tg e18
        have es := lateS hk fo hb hl tg e18
        obtain ⟨g2, eg2, f2⟩ := umX6_sign w.gg m (f := g 30 19) (t := to) hfr2.1 hto (by omega)
        have hsv := sgn_v (K := kOf V) (b := V 8) (f := g 30 19) (t := to)
        have key : ∀ s0 : Int, (s0 = F 7) → fX6_readMove_b260 b0 s0 g = some (if F 7 = (if V 8 to = -1 then 0 else 1) then (if F 6 = sgn (kOf V) (V 8) (g 30 19) to then 0 else 7) else 6, if F 7 = (if V 8 to = -1 then 0 else 1) then g2 else g) := fun s0 hs0 => by
          have e278 : ∀ s1 : Int, (s1 = if V 8 to = -1 then 0 else 1) → fX6_readMove_b278 b0 s0 s1 g = some (if F 7 = (if V 8 to = -1 then 0 else 1) then (if F 6 = sgn (kOf V) (V 8) (g 30 19) to then 0 else 7) else 6, if F 7 = (if V 8 to = -1 then 0 else 1) then g2 else g) := fun s1 hs1 => by
            have rs1 : 0 ≤ s1 ∧ s1 ≤ 1 := by rw [hs1]; split <;> omega
            unfold fX6_readMove_b278
            rw [wr_of (z := s0) (by omega) (by omega), wr_of (z := s1) (by omega) (by omega), hs0, hs1]
            by_cases q2 : F 7 = if V 8 to = -1 then 0 else 1
            · rw [if_pos q2, if_pos q2, if_pos q2, es, Option.bind_some, e20, ← eto, eg2, Option.bind_some]
              dsimp only
              rw [wr_of (z := F 6) (by omega) (by omega), wr_of (z := sgn (kOf V) (V 8) (g 30 19) to) (by omega) (by omega)]
              by_cases q3 : F 6 = sgn (kOf V) (V 8) (g 30 19) to
              · rw [if_pos q3, if_pos q3]
              · rw [if_neg q3, if_neg q3]
            · rw [if_neg q2, if_neg q2, if_neg q2]
          unfold fX6_readMove_b260
          rw [e20, ← eto, if_pos hto, m.1 to hto.1 hto.2, wr_of (z := V 8 to) (by omega) (by omega)]
          by_cases q4 : V 8 to = -1
          · rw [if_pos q4]
            exact e278 0 (by rw [if_pos q4])
          · rw [if_neg q4]
            exact e278 1 (by rw [if_neg q4])
        rw [if_pos q1, ex, Option.bind_some, wr_of (z := vx) (by omega) (by omega), if_pos q1]
        have ekey : (if vx = -1 then fX6_readMove_b260 b0 0 g else fX6_readMove_b260 b0 1 g) = some (if F 7 = (if V 8 to = -1 then 0 else 1) then (if F 6 = sgn (kOf V) (V 8) (g 30 19) to then 0 else 7) else 6, if F 7 = (if V 8 to = -1 then 0 else 1) then g2 else g) := by
          by_cases q5 : vx = -1
          · rw [if_pos q5] at fx ⊢
            exact key 0 fx.symm
          · rw [if_neg q5] at fx ⊢
            exact key 1 fx.symm
        rw [ekey]
        have fin : frJ (if F 7 = (if V 8 to = -1 then 0 else 1) then g2 else g) g := by
          by_cases q7 : F 7 = if V 8 to = -1 then 0 else 1
          · rw [if_pos q7]; exact f2.J
          · rw [if_neg q7]; exact frJ_rf
        refine ⟨_, rfl, fin, fun _ => ?_⟩
        by_cases q7 : F 7 = if V 8 to = -1 then 0 else 1
        · rw [if_pos q7, f2 30 (by decide)]
        · rw [if_neg q7]
      · rw [if_neg q1, if_neg q1]
        by_cases q2 : a = 0
        · rw [if_pos q2, if_pos q2]
          exact ⟨g, rfl, frJ_rf, fun _ => rfl⟩
        · rw [if_neg q2, if_neg q2]
          by_cases q3 : cc = 0
          · rw [if_pos q3, if_pos q3]
            exact ⟨g, rfl, frJ_rf, fun _ => rfl⟩
          · rw [if_neg q3, if_neg q3]
            exact ⟨g, rfl, frJ_rf, fun _ => rfl⟩
    · obtain ⟨v1, v2⟩ := w.gg.2.1 (j : Int) (by omega) (by omega)
      have ej : (j : Int) + 1 = ((j + 1 : Nat) : Int) := by omega
      have x4 : wr (if F 2 = -1 then -1 else F 2 + 97) = if F 2 = -1 then -1 else F 2 + 97 := by split; decide; exact wr_of (by omega) (by omega)
      have x5 : wr (if F 3 = -1 then -1 else F 3 + 49) = if F 3 = -1 then -1 else F 3 + 49 := by split; decide; exact wr_of (by omega) (by omega)
      have c4 : ((if F 2 = -1 then -1 else F 2 + 97) = (-1 : Int)) = (F 2 = -1) := by
        apply propext
        constructor
        · intro k; split at k
          · assumption
          · omega
        · intro k; rw [if_pos k]
      have c5 : ((if F 3 = -1 then -1 else F 3 + 49) = (-1 : Int)) = (F 3 = -1) := by
        apply propext
        constructor
        · intro k; split at k
          · assumption
          · omega
        · intro k; rw [if_pos k]
      rw [if_neg hj, if_pos (by omega), pX6_turn w e, Option.bind_some, m.1 (j : Int) (by omega) (by omega), wr_of (z := V 8 j) (by omega) (by omega), wr_of (z := 2 * kd + trn V) (by omega) (by omega), ej, jdF_st (by omega), x4, x5]
      simp only [if_neg (show ¬ wr 1 = 0 by decide), if_pos wr_0, if_pos (show 0 ≤ (j : Int) ∧ (j : Int) < 2147483648 by omega), c4, c5]
      have ih := fun a2 c2 g2 (f2 : frJ g2 g) (k1 : 0 ≤ a2 ∧ a2 ≤ ((j + 1 : Nat) : Int)) (k2 : 0 ≤ c2 ∧ c2 ≤ ((j + 1 : Nat) : Int)) k3 => jL89 w hk fo ⟨r4, r5, r2, r3, r6, r7⟩ hr hl2 hb hl t hkd nf (j + 1) a2 c2 g2 (f2.qm.tr e) (by rw [f2.2 18 (by decide)]; exact e18) (by rw [f2.2 20 (by decide)]; exact e20) k1 k2 k3 (by omega) (by omega)
      obtain ⟨pc, epc⟩ : ∃ pc, pc = 2 * kd + trn V := ⟨_, rfl⟩
      rw [← epc] at ih hfr ⊢
      have skip : jCn (kOf V) (V 8) pc F j = false → ∃ g1, fX6_readMove_L89 nf b0 kd (if F 2 = -1 then -1 else F 2 + 97) (if F 3 = -1 then -1 else F 3 + 49) a cc ((j + 1 : Nat) : Int) g = some (jdE (kOf V) (V 8) F (jdF (jCn (kOf V) (V 8) pc F) (jLg (kOf V) (V 8) F) (64 - (j + 1)) (j + 1) (if jCn (kOf V) (V 8) pc F j = true then (if jLg (kOf V) (V 8) F j = true then (a + 1, cc + 1, (j : Int)) else (a + 1, cc, g 30 19)) else (a, cc, g 30 19))), g1) ∧ frJ g1 g ∧ (jdE (kOf V) (V 8) F (jdF (jCn (kOf V) (V 8) pc F) (jLg (kOf V) (V 8) F) (64 - (j + 1)) (j + 1) (if jCn (kOf V) (V 8) pc F j = true then (if jLg (kOf V) (V 8) F j = true then (a + 1, cc + 1, (j : Int)) else (a + 1, cc, g 30 19)) else (a, cc, g 30 19))) = 0 → g1 30 19 = (jdF (jCn (kOf V) (V 8) pc F) (jLg (kOf V) (V 8) F) (64 - (j + 1)) (j + 1) (if jCn (kOf V) (V 8) pc F j = true then (if jLg (kOf V) (V 8) F j = true then (a + 1, cc + 1, (j : Int)) else (a + 1, cc, g 30 19)) else (a, cc, g 30 19))).2.2) := fun ec => by
        rw [ec, if_neg (show ¬ false = true by decide)]
        exact ih a cc g frJ_rf (by omega) (by omega) hfr
      by_cases q1 : V 8 j = pc
      · rw [if_pos q1]
        by_cases q2 : alw F j = true
        · have q2p := of_decide_eq_true q2
          have core : ∃ g1, ((fX6_reaches (j : Int) (g 30 20) g).bind fun r4 => if wr r4 = 0 then fX6_readMove_L89 nf b0 kd (if F 2 = -1 then -1 else F 2 + 97) (if F 3 = -1 then -1 else F 3 + 49) a cc ((j + 1 : Nat) : Int) g else (fX6_isLegal (j : Int) (g 30 20) g).bind fun r3 => if wr r3.1 = 0 then fX6_readMove_L89 nf b0 kd (if F 2 = -1 then -1 else F 2 + 97) (if F 3 = -1 then -1 else F 3 + 49) (a + 1) cc ((j + 1 : Nat) : Int) r3.2 else fX6_readMove_L89 nf b0 kd (if F 2 = -1 then -1 else F 2 + 97) (if F 3 = -1 then -1 else F 3 + 49) (a + 1) (cc + 1) ((j + 1 : Nat) : Int) (hs r3.2 30 19 (j : Int))) = some (jdE (kOf V) (V 8) F (jdF (jCn (kOf V) (V 8) pc F) (jLg (kOf V) (V 8) F) (64 - (j + 1)) (j + 1) (if jCn (kOf V) (V 8) pc F j = true then (if jLg (kOf V) (V 8) F j = true then (a + 1, cc + 1, (j : Int)) else (a + 1, cc, g 30 19)) else (a, cc, g 30 19))), g1) ∧ frJ g1 g ∧ (jdE (kOf V) (V 8) F (jdF (jCn (kOf V) (V 8) pc F) (jLg (kOf V) (V 8) F) (64 - (j + 1)) (j + 1) (if jCn (kOf V) (V 8) pc F j = true then (if jLg (kOf V) (V 8) F j = true then (a + 1, cc + 1, (j : Int)) else (a + 1, cc, g 30 19)) else (a, cc, g 30 19))) = 0 → g1 30 19 = (jdF (jCn (kOf V) (V 8) pc F) (jLg (kOf V) (V 8) F) (64 - (j + 1)) (j + 1) (if jCn (kOf V) (V 8) pc F j = true then (if jLg (kOf V) (V 8) F j = true then (a + 1, cc + 1, (j : Int)) else (a + 1, cc, g 30 19)) else (a, cc, g 30 19))).2.2) := by
            rw [e20, ← eto, umX6_reaches w.gg m (by omega) hto (by omega), Option.bind_some]
            by_cases q3 : hit (kOf V) (V 8) j to = true
            · have eC : jCn (kOf V) (V 8) pc F j = true := by unfold jCn; rw [decide_eq_true q1, q2, ← eto, q3]; rfl
              have eL : jLg (kOf V) (V 8) F j = lgl (kOf V) (V 8) j to := by unfold jLg; rw [← eto]
              obtain ⟨g2, eg2, f2⟩ := mX6_legal w.gg m (f := (j : Int)) (t := to) (by omega) hto (by omega)
              rw [if_pos q3, if_neg (show ¬ wr 1 = 0 by decide), eg2, Option.bind_some, eC, if_pos rfl, eL]
              by_cases q4 : lgl (kOf V) (V 8) j to = true
              · have f3 : frJ (hs g2 30 19 (j : Int)) g := ⟨fun a h1 h2 => by rw [hs_ne _ _ _ h2]; exact f2 a h1, fun b h1 => by rw [hs_at, if_pos rfl, if_neg h1, f2 30 (by decide)]⟩
                have e19 : hs g2 30 19 (j : Int) 30 19 = (j : Int) := hs_self
                obtain ⟨g1, a1, a2, a3⟩ := ih (a + 1) (cc + 1) (hs g2 30 19 (j : Int)) f3 (by omega) (by omega) (Or.inr ⟨by rw [e19]; omega, by rw [e19]; exact q1⟩)
                rw [e19] at a1 a3
                simp only [if_pos q4, if_neg (show ¬ wr 1 = 0 by decide)]
                exact ⟨g1, a1, frJ_tr a2 f3, a3⟩
              · obtain ⟨g1, a1, a2, a3⟩ := ih (a + 1) cc g2 f2.J (by omega) (by omega) (by rw [f2 30 (by decide)]; exact hfr)
                rw [f2 30 (by decide)] at a1 a3
                simp only [if_neg q4, if_pos wr_0]
                exact ⟨g1, a1, frJ_tr a2 f2.J, a3⟩
            · rw [if_neg q3, if_pos wr_0]
              exact skip (by unfold jCn; rw [← eto, Bool.eq_false_iff.mpr q3, Bool.and_false, Bool.and_false])
          by_cases p1 : F 2 = -1
          · by_cases p2 : F 3 = -1
            · rw [if_pos p1, if_pos p2]
              rw [if_pos p1, if_pos p2] at core
              rw [if_pos p1, if_pos p2]
              exact core
            · have p3 : F 3 = (j : Int) / 8 := q2p.2.resolve_left p2
              simp only [if_pos p1, if_neg p2] at core ⊢
              rw [wr_of (z := (j : Int) / 8) (by omega) (by omega), wr_of (z := F 3 + 49 - 49) (by omega) (by omega), if_pos (by omega)]
              exact core
          · have p4 : F 2 = (j : Int) % 8 := q2p.1.resolve_left p1
            by_cases p2 : F 3 = -1
            · simp only [if_neg p1, if_pos p2] at core ⊢
              rw [wr_of (z := (j : Int) % 8) (by omega) (by omega), wr_of (z := F 2 + 97 - 97) (by omega) (by omega), if_pos (by omega)]
              exact core
            · have p3 : F 3 = (j : Int) / 8 := q2p.2.resolve_left p2
              simp only [if_neg p1, if_neg p2] at core ⊢
              rw [wr_of (z := (j : Int) % 8) (by omega) (by omega), wr_of (z := F 2 + 97 - 97) (by omega) (by omega), if_pos (by omega), wr_of (z := (j : Int) / 8) (by omega) (by omega), wr_of (z := F 3 + 49 - 49) (by omega) (by omega), if_pos (by omega)]
              exact core
        · have sk := skip (by unfold jCn; rw [Bool.eq_false_iff.mpr q2, Bool.false_and, Bool.and_false])
          have q2p : ¬ ((F 2 = -1 ∨ F 2 = (j : Int) % 8) ∧ (F 3 = -1 ∨ F 3 = (j : Int) / 8)) := fun k => q2 (decide_eq_true k)
          by_cases p1 : F 2 = -1
          · by_cases p2 : F 3 = -1
            · exact absurd ⟨Or.inl p1, Or.inl p2⟩ q2p
            · have p3 : ¬ F 3 = (j : Int) / 8 := fun k => q2p ⟨Or.inl p1, Or.inr k⟩
              simp only [if_pos p1, if_neg p2] at sk ⊢
              rw [wr_of (z := (j : Int) / 8) (by omega) (by omega), wr_of (z := F 3 + 49 - 49) (by omega) (by omega), if_neg (by omega)]
              exact sk
          · by_cases p4 : F 2 = (j : Int) % 8
            · by_cases p2 : F 3 = -1
              · exact absurd ⟨Or.inr p4, Or.inl p2⟩ q2p
              · have p3 : ¬ F 3 = (j : Int) / 8 := fun k => q2p ⟨Or.inr p4, Or.inr k⟩
                simp only [if_neg p1, if_neg p2] at sk ⊢
                rw [wr_of (z := (j : Int) % 8) (by omega) (by omega), wr_of (z := F 2 + 97 - 97) (by omega) (by omega), if_pos (by omega), wr_of (z := (j : Int) / 8) (by omega) (by omega), wr_of (z := F 3 + 49 - 49) (by omega) (by omega), if_neg (by omega)]
                exact sk
            · simp only [if_neg p1] at sk ⊢
              rw [wr_of (z := (j : Int) % 8) (by omega) (by omega), wr_of (z := F 2 + 97 - 97) (by omega) (by omega), if_neg (by omega)]
              exact sk
      · rw [if_neg q1]
        exact skip (by unfold jCn; rw [decide_eq_false q1, Bool.false_and])
end ZBOTH
