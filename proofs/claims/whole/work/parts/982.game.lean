section ZGAME
/-- the whole walk over a game -/
theorem rg_all : ∀ (n : Nat) (C G : HS) (op mv : Int) (p nfC nfR : Nat), rgI C G op mv p → (p : Int) ≤ C 19 1 → (C 19 1).toNat - p ≤ n → (C 19 1).toNat - p < nfC → (C 19 1).toNat - p < nfR → (wdB C p = true → wdB C ((p : Int) - 1) = false) → rgR (fX5_readGame_L23 nfC 0 (p : Int) C) (fX6_readGame_L20 nfR op mv (p : Int) G) C G
  | n, C, G, op, mv, p, 0, _, _, _, _, h, _, _ => by omega
  | n, C, G, op, mv, p, _ + 1, 0, _, _, _, _, h, _ => by omega
  | n, C, G, op, mv, p, nfC + 1, nfR + 1, I, hp, hn, hC, hR, hb => by
    by_cases he : (p : Int) = C 19 1
    · exact rg_end I he
    · obtain ⟨n, rfl⟩ : ∃ m, n = m + 1 := ⟨n - 1, by omega⟩
      obtain ⟨nfC, rfl⟩ : ∃ m, nfC = m + 1 := ⟨nfC - 1, by omega⟩
      have hp2 : (p : Int) < C 19 1 := by omega
      have step : (wdB C p = false) → ∀ C2 G2 op2 mv2, rgI C2 G2 op2 mv2 (p + 1) → C2 19 = C 19 → C2 20 = C 20 → (∀ a : Nat, a < 30 → G2 a = G a) → (∀ a : Nat, 30 ≤ a → C2 a = C a) → rgR (fX5_readGame_L23 (nfC + 1) 0 ((p + 1 : Nat) : Int) C2) (fX6_readGame_L20 nfR op2 mv2 ((p + 1 : Nat) : Int) G2) C G := fun hw C2 G2 op2 mv2 I2 c19 c20 cg cc => by
        refine rgR_tr (rg_all n C2 G2 op2 mv2 (p + 1) (nfC + 1) nfR I2 (by rw [c19]; omega) (by rw [c19]; omega) (by rw [c19]; omega) (by rw [c19]; omega) (fun _ => ?_)) cg cc
        rw [wdB_cg (by rw [c19]) c20, show ((p + 1 : Nat) : Int) - 1 = (p : Int) by omega]
        exact hw
      by_cases q1 : C 20 p = 40
      · exact rg_open I hp2 q1 (step (wdB_f.mpr (fun k => k.2.2.1 q1)))
      · by_cases q2 : C 20 p = 41
        · exact rg_close I hp2 q2 (step (wdB_f.mpr (fun k => k.2.2.2 q2)))
        · by_cases q3 : C 20 p = 32
          · exact rg_blank I hp2 q3 (step (wdB_f.mpr (fun k => k.2.1 q3)))
          · have hw : wdB C p = true := wdB_t.mpr ⟨by omega, q3, q1, q2⟩
            exact rg_word I hp2 hw (hb hw) hC hR (fun e C2 G2 op2 mv2 nfC2 nfR2 pe I2 c19 c20 el f1 f2 b2 => rg_all n C2 G2 op2 mv2 e nfC2 nfR2 I2 (by rw [c19]; exact el) (by rw [c19]; omega) (by rw [c19]; exact f1) (by rw [c19]; exact f2) b2)
theorem rg_begin {h X Y g : HS} (w : Psi h) (e : zqm g h) (eX : fX5_beginAnew h = some X) (eY : fX6_clearNodes g = some Y) : rgI (hs (hs (hs X 0 9 0) 0 10 0) 0 13 (-1)) (hs Y 30 14 (-1)) 0 0 0 ∧ (∀ a : Nat, 30 ≤ a → X a = h a) ∧ (∀ a : Nat, a < 30 → Y a = g a) ∧ Y 30 8 = 1 ∧ X 19 = h 19 := by
  have n := w.T.n
  obtain ⟨X2, eX2, x1, x2, x3, x4, x5, x6⟩ := clearC w.cc
  obtain ⟨Y2, eY2, y1, y2, y3, y4, y5, y6, y7, y8⟩ := clearR w e
  obtain rfl : X2 = X := Option.some.inj (eX2.symm.trans eX)
  obtain rfl : Y2 = Y := Option.some.inj (eY2.symm.trans eY)
  have X0 : hs (hs X2 0 9 0) 0 10 0 0 8 = X2 0 8 := by simp [hs_at]
  have w1 : Psi (mg (hs (hs X2 0 9 0) 0 10 0) Y2) := by
    refine clr_psi w (fun a b hn hm => ?_) ?_ ?_ ?_ ?_ ?_ ?_ (fun s s0 s1 => ⟨?_, ?_⟩)
    · by_cases ha : a < 30
      · rw [mg_l ha]
        by_cases a0 : a = 0
        · subst a0
          rw [hs_at, if_pos rfl, if_neg (fun k => hn (Or.inr (Or.inl ⟨rfl, by omega⟩))), hs_at, if_pos rfl, if_neg (fun k => hn (Or.inr (Or.inl ⟨rfl, by omega⟩)))]
          exact x1 0 b (by omega) hn (by omega)
        · rw [hs_ne _ _ _ a0, hs_ne _ _ _ a0]
          exact x1 a b ha hn (by omega)
      · rw [mg_r (by omega)]
        exact y1 a b (by omega) hn (by omega)
    · rw [mg_l (by decide), hs_ne _ _ _ (by decide), hs_ne _ _ _ (by decide), x2]
    · rw [mg_l (by decide), X0, x3]
    · rw [mg_r (by decide), y2]
    · rw [mg_r (by decide), y3]
    · rw [mg_l (by decide), mg_l (by decide), mg_l (by decide), mg_l (by decide), mg_l (by decide)]
      simp only [hs_at]
      exact x4
    · rw [mg_r (by decide)]
      exact y4
    · rw [mg_l (by decide), hs_ne _ _ _ (by decide), hs_ne _ _ _ (by decide), x5 s s0 s1]
    · rw [mg_r (by decide), y5 s s0 s1]
  refine ⟨⟨rg_err w1 (by omega), ?_, ⟨?_, ?_, ?_, ?_⟩, Or.inl rfl, by omega, fun i i0 i1 => by omega⟩, x6, y6, y2, ?_⟩
  · rw [hs_ne _ _ _ (by decide), hs_ne _ _ _ (by decide), hs_ne _ _ _ (by decide), hs_ne _ _ _ (by decide), x6 34 (by decide)]
    funext b
    rw [y1 34 b (by decide) (by omega) (by omega)]
  · simp [hs_at]
  · simp [hs_at]
  · simp [hs_at]
  · simp [hs_at]
  · funext b
    exact x1 19 b (by decide) (by omega) (by omega)
theorem qc_18 {h : HS} (w : Psi h) : ∃ o, fL_c18 h = some o ∧ Psi o := by
  have n := w.T.n
  obtain ⟨X, eX, -⟩ := clearC w.cc
  obtain ⟨Y, eY, -⟩ := clearR w (zqm.rf (h := h))
  obtain ⟨I, b1, b2, b3, b4⟩ := rg_begin w zqm.rf eX eY
  obtain ⟨C, eC⟩ : ∃ C, C = hs (hs (hs X 0 9 0) 0 10 0) 0 13 (-1) := ⟨_, rfl⟩
  rw [← eC] at I
  have C19 : C 19 = h 19 := by rw [eC, hs_ne _ _ _ (by decide), hs_ne _ _ _ (by decide), hs_ne _ _ _ (by decide), b4]
  have wd : wdB C ((0 : Nat) : Int) = true → wdB C (((0 : Nat) : Int) - 1) = false := fun _ => wdB_f.mpr (fun k => by omega)
  obtain ⟨e, C1, G1, r1, r2, r3, r4, r5, r6⟩ := rg_all 2000 C _ 0 0 0 zF zF I (by rw [C19]; omega) (by rw [C19]; omega) (by rw [C19]; unfold zF; omega) (by rw [C19]; unfold zF; omega) wd
  have q1 : zqm (hs C1 30 0 0) h := (show zqm C1 h from fun a b ha _ => by
    rw [r6 a ha, eC, hs_ne _ _ _ (by omega), hs_ne _ _ _ (by omega), hs_ne _ _ _ (by omega), b1 a ha]).h30 0
  obtain ⟨Z, eZ, -⟩ := clearR w q1
  obtain ⟨J, c1, c2, c3, -⟩ := rg_begin w q1 eX eZ
  rw [← eC] at J
  obtain ⟨e2, C2, G2, s1, s2, s3, s4, s5, s6⟩ := rg_all 2000 C _ 0 0 0 zF zF J (by rw [C19]; omega) (by rw [C19]; omega) (by rw [C19]; unfold zF; omega) (by rw [C19]; unfold zF; omega) wd
  obtain ⟨rfl, rfl⟩ : e = e2 ∧ C1 = C2 := by
    have := Option.some.inj (r1.symm.trans s1)
    exact ⟨congrArg Prod.fst this, congrArg Prod.snd this⟩
  unfold fL_c18 fX5_readGame fX6_readGame
  rw [eX, Option.bind_some, if_pos (Or.inl rfl), ← eC]
  have r1' : fX5_readGame_L23 zF 0 0 C = some (e, C1) := r1
  have s2' : fX6_readGame_L20 zF 0 0 0 (hs Z 30 14 (-1)) = some (e, G2) := s2
  rw [r1', Option.bind_some]
  dsimp only
  rw [eZ, Option.bind_some, if_pos (Nat.zero_le _), s2', Option.bind_some, if_pos rfl]
  refine ⟨G2, rfl, ?_⟩
  have eG : mg C1 G2 = G2 := by
    funext a
    by_cases ha : a < 30
    · rw [mg_l ha, s5 a ha, hs_ne _ _ _ (by omega), c2 a ha, hs_ne _ _ _ (by omega)]
    · rw [mg_r (by omega)]
  rw [eG] at s3
  exact s3
end ZGAME
