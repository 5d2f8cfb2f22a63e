section ZRGAME
/-! a game is read -/
abbrev rgI (C G : HS) (op mv : Int) (p : Nat) : Prop := Psi (mg C G) ∧ C 34 = G 34 ∧ (C 0 9 = op ∧ C 0 10 = mv ∧ C 0 13 = -1 ∧ G 30 14 = -1) ∧ (mv = 0 ∨ (mv = 1 ∧ 1 ≤ op)) ∧ (0 ≤ op ∧ op ≤ p) ∧ (∀ i : Int, 0 ≤ i → i < op → C 24 i = G 42 i ∧ 0 ≤ C 24 i ∧ C 24 i < C 9 8)
abbrev rgR (x : Option (Int × HS)) (y : Option (Int × HS)) (C G : HS) : Prop := ∃ e C1 G1, x = some (e, C1) ∧ y = some (e, G1) ∧ Psi (mg C1 G1) ∧ C1 34 = G1 34 ∧ (∀ a : Nat, a < 30 → G1 a = G a) ∧ (∀ a : Nat, 30 ≤ a → C1 a = C a)
theorem hs_id {h : HS} {a : Nat} {b v : Int} (e : h a b = v) : hs h a b v = h := by
  funext c d
  rw [hs_at]
  by_cases h1 : c = a
  · subst h1
    rw [if_pos rfl]
    by_cases h2 : d = b
    · rw [if_pos h2, h2, e]
    · rw [if_neg h2]
  · rw [if_neg h1]
theorem wdB_cg {o h : HS} (e1 : o 19 1 = h 19 1) (e2 : o 20 = h 20) (p : Int) : wdB o p = wdB h p := by
  unfold wdB
  rw [e1, e2]
theorem rg_err {C G : HS} (w : Psi (mg C G)) {p : Int} (hp : -1 ≤ p ∧ p ≤ 5000) : Psi (mg (hs C 0 13 p) (hs G 30 14 p)) := by
  have e0 : ∀ b, b ≠ 13 → mg (hs C 0 13 p) (hs G 30 14 p) 0 b = mg C G 0 b := fun b hb => by
    rw [mg_l (by decide), mg_l (by decide), hs_at, if_pos rfl, if_neg hb]
  have e30 : ∀ b, b ≠ 14 → mg (hs C 0 13 p) (hs G 30 14 p) 30 b = mg C G 30 b := fun b hb => by
    rw [mg_r (by decide), mg_r (by decide), hs_at, if_pos rfl, if_neg hb]
  have e13 : mg (hs C 0 13 p) (hs G 30 14 p) 0 13 = p := by rw [mg_l (by decide), hs_self]
  have e14 : mg (hs C 0 13 p) (hs G 30 14 p) 30 14 = p := by rw [mg_r (by decide), hs_self]
  refine w.errs ?_ (fun a b hn h0 h30 => ?_)
  · unfold PsE
    rw [e13, e14, e0 14 (by decide), e0 15 (by decide), e30 15 (by decide), e30 16 (by decide)]
    exact ⟨⟨rfl, by omega, by omega⟩, w.E.e2, w.E.e3⟩
  · by_cases a0 : a = 0
    · subst a0
      exact e0 b (fun k => h0 ⟨rfl, by omega⟩)
    · by_cases a30 : a = 30
      · subst a30
        exact e30 b (fun k => h30 ⟨rfl, by omega⟩)
      · by_cases ha : a < 30
        · rw [mg_l ha, mg_l ha, hs_ne _ _ _ a0]
        · rw [mg_r (by omega), mg_r (by omega), hs_ne _ _ _ a30]
theorem L23_err {nf : Nat} {e x : Int} {H : HS} (he : 1 ≤ e ∧ e ≤ 9) : fX5_readGame_L23 (nf + 1) e x H = some (e, H) := by
  rw [fX5_readGame_L23]
  unfold fX5_readGame_b151
  have we := wr_of (z := e) (by omega) (by omega)
  have wn : ¬ wr e = 0 := by omega
  unfold fX3_size
  rw [Option.bind_some, if_neg wn, if_neg wn, ite_self]
/-- an error ends it, on both sides -/
theorem rg_stop {C G : HS} {nf : Nat} {e : Int} {p : Nat} (w : Psi (mg C G)) (e34 : C 34 = G 34) (he : 1 ≤ e ∧ e ≤ 9) (hp : (p : Int) ≤ 5000) : rgR (fX5_readGame_b132 (fun a0 a1 hh => fX5_readGame_L23 (nf + 1) a0 a1 hh) e (p : Int) C) ((fX6_stop e (p : Int) G).bind fun r => some (r.1, r.2)) C G := by
  have we := wr_of (z := e) (by omega) (by omega)
  refine ⟨e, hs C 0 13 (p : Int), hs G 30 14 (p : Int), ?_, rfl, rg_err w ⟨by omega, hp⟩, by rw [hs_ne _ _ _ (by decide), hs_ne _ _ _ (by decide), e34], fun a ha => by rw [hs_ne _ _ _ (by omega)], fun a ha => by rw [hs_ne _ _ _ (by omega)]⟩
  unfold fX5_readGame_b132 fX5_readGame_b142
  rw [if_neg (by omega)]
  exact L23_err he
theorem zk_of {V g : HS} (w : Psi V) (e8 : g 30 8 = V 9 8) : zk g = (V 9 8 - 1).toNat ∧ (1 ≤ g 30 8 ∧ g 30 8 ≤ 200) := by
  have n := w.R.n
  unfold zk
  rw [e8]
  exact ⟨rfl, n⟩
/-- the place behind the text -/
theorem rg_end {C G : HS} {op mv : Int} {p nfC nfR : Nat} (I : rgI C G op mv p) (hp : (p : Int) = C 19 1) : rgR (fX5_readGame_L23 (nfC + 1) 0 (p : Int) C) (fX6_readGame_L20 (nfR + 1) op mv (p : Int) G) C G := by
  obtain ⟨w, e34, ⟨i1, i2, i3, i4⟩, i5, i6, i7⟩ := I
  have qm : zqm G (mg C G) := mg_qm
  have n := w.T.n
  have nC : mg C G 19 1 = C 19 1 := by rw [mg_l (by decide)]
  have e13 : G 30 13 = C 19 1 := by rw [qm.c30 (b := 13) (by decide), w.T.n2, nC]
  obtain ⟨z1, z2⟩ := zk_of w (g := G) (by rw [qm.c30 (b := 8) (by decide), w.R.n2])
  rw [fX5_readGame_L23, fX6_readGame_L20]
  unfold fX5_readGame_b151 fX3_size fX6_readGame_b267
  rw [Option.bind_some, Option.bind_some, i1, if_pos z2, if_pos z2, e13, wr_of (z := C 19 1) (by omega) (by omega), wr_of (z := (p : Int)) (by omega) (by omega), if_pos (show C 19 1 ≤ (p : Int) by omega), if_pos wr_0, if_pos (show C 19 1 ≤ (p : Int) by omega), wr_of (z := op) (by omega) (by omega), wr_of (z := mv) (by omega) (by omega), if_pos (Nat.le_refl _)]
  by_cases q : op ≤ 0
  · rw [if_pos q, if_pos (show mv = 0 by omega), if_pos q]
    exact ⟨0, C, G, rfl, rfl, w, e34, fun _ _ => rfl, fun _ _ => rfl⟩
  · rw [if_neg q, if_neg q, ite_self]
    exact ⟨8, hs C 0 13 (C 19 1), hs G 30 14 (C 19 1), rfl, rfl, rg_err w (by omega), by rw [hs_ne _ _ _ (by decide), hs_ne _ _ _ (by decide), e34], fun a ha => by rw [hs_ne _ _ _ (by omega)], fun a ha => by rw [hs_ne _ _ _ (by omega)]⟩
/-- a bracket that opens -/
theorem rg_open {C G : HS} {op mv : Int} {p nfC nfR : Nat} (I : rgI C G op mv p) (hp : (p : Int) < C 19 1) (hv : C 20 p = 40) (next : ∀ C2 G2 op2 mv2, rgI C2 G2 op2 mv2 (p + 1) → C2 19 = C 19 → C2 20 = C 20 → (∀ a : Nat, a < 30 → G2 a = G a) → (∀ a : Nat, 30 ≤ a → C2 a = C a) → rgR (fX5_readGame_L23 (nfC + 1) 0 ((p + 1 : Nat) : Int) C2) (fX6_readGame_L20 nfR op2 mv2 ((p + 1 : Nat) : Int) G2) C G) : rgR (fX5_readGame_L23 (nfC + 2) 0 (p : Int) C) (fX6_readGame_L20 (nfR + 1) op mv (p : Int) G) C G := by
  obtain ⟨w, e34, ⟨i1, i2, i3, i4⟩, i5, i6, i7⟩ := id I
  have qm : zqm G (mg C G) := mg_qm
  have wc : PsiC C := w.cc.sq (mg_qc e34)
  have n := wc.T.1
  have np := wc.P.n
  have n1 := wc.R.n
  have e13 : G 30 13 = C 19 1 := by rw [qm.c30 (b := 13) (by decide), w.T.n2, mg_l (by decide)]
  have e39 : G 39 p = 40 := by rw [qm.c (a := 39) (by decide), (w.T.by_ (p : Int) (by omega) (by rw [mg_l (by decide)]; omega)).1, mg_l (by decide), hv]
  have e9 : G 30 9 = C 0 8 := by rw [qm.c30 (b := 9) (by decide), w.P.n.2, mg_l (by decide)]
  have e37 : G 37 = mg C G 37 := qm.c (by decide)
  obtain ⟨z1, z2⟩ := zk_of w (g := G) (by rw [qm.c30 (b := 8) (by decide), w.R.n2])
  rw [fX5_readGame_L23, fX6_readGame_L20]
  unfold fX3_size fX6_readGame_b57
  rw [Option.bind_some, if_pos z2, if_pos z2, e13, wr_of (z := C 19 1) (by omega) (by omega), wr_of (z := (p : Int)) (by omega) (by omega), if_neg (by omega), if_pos wr_0, if_neg (by omega), ucX3_get n.2 ⟨by omega, hp⟩, Option.bind_some, hv, if_pos (show wr 40 = 40 by decide), if_pos (show 0 ≤ (p : Int) ∧ (p : Int) < 2000 by omega), e39, if_pos (show wr 40 = 40 by decide), e9, wr_of (z := C 0 8) (by omega) (by omega), wr_of (z := mv) (by omega) (by omega), if_pos (Nat.le_refl _)]
  unfold fX5_openVariation
  rw [i1, i2, wr_of (z := mv) (by omega) (by omega), wr_of (z := C 0 8) (by omega) (by omega), wr_of (z := op) (by omega) (by omega)]
  by_cases q1 : mv = 0
  · rw [if_pos q1, if_pos q1]
    by_cases q2 : C 0 8 = 0
    · rw [if_pos q2, if_pos q2, Option.bind_some]
      exact rg_stop w e34 (by omega) (by omega)
    · have p1 : 1 ≤ C 0 8 := by omega
      obtain ⟨a1, a2, -⟩ := wc.P.t (C 0 8) p1 np.2
      have z9 : hs C 24 op (C 0 8) 0 9 = op := by rw [hs_ne _ _ _ (by decide), i1]
      obtain ⟨S, eS⟩ : ∃ S, S = hs (hs C 24 op (C 0 8)) 0 9 (op + 1) := ⟨_, rfl⟩
      have Sne : ∀ a : Nat, a ≠ 24 → a ≠ 0 → S a = C a := fun a h1 h2 => by rw [eS, hs_ne _ _ _ h2, hs_ne _ _ _ h1]
      have S0 : ∀ b : Int, b ≠ 9 → S 0 b = C 0 b := fun b hb => by rw [eS, hs_at, if_pos rfl, if_neg hb, hs_ne _ _ _ (by decide)]
      have S09 : S 0 9 = op + 1 := by rw [eS, hs_self]
      have S24 : ∀ i : Int, S 24 i = if i = op then C 0 8 else C 24 i := fun i => by rw [eS, hs_ne _ _ _ (by decide), hs_at, if_pos rfl]
      have qS : zqc S C := fun a b ha hn => by
        by_cases a0 : a = 0
        · subst a0
          exact S0 b (fun k => hn (Or.inr (Or.inl ⟨rfl, Or.inl k⟩)))
        · rw [Sne a (fun k => hn (Or.inl (by omega))) a0]
      have wS : PsiC S := wc.sq qS
      have eup := stepUp_at wS (p := C 0 8) p1 (by rw [Sne 9 (by decide) (by decide)]; exact np.2)
      have eself := atN_self wS
      rw [S0 8 (by decide)] at eself
      rw [eself, Sne 10 (by decide) (by decide)] at eup
      obtain ⟨q, eq⟩ : ∃ q, q = C 10 (C 0 8) := ⟨_, rfl⟩
      rw [← eq] at eup a1
      rw [if_neg q2, if_neg q2, if_pos (by omega), if_pos (by omega), z9, ← eS, eup, Option.bind_some, if_pos (Or.inr rfl), Option.bind_some, if_pos (by omega)]
      -- the reference
      obtain ⟨P, eP⟩ : ∃ P, P = hs G 42 op (C 0 8) := ⟨_, rfl⟩
      have Pne : ∀ a : Nat, a ≠ 42 → P a = G a := fun a h1 => by rw [eP, hs_ne _ _ _ h1]
      have P9 : P 30 9 = C 0 8 := by rw [Pne 30 (by decide), e9]
      rw [← eP, P9, (pX6_get w (g := P) (by rw [Pne 37 (by decide), e37]) (q := C 0 8) (by rw [mg_l (by decide)]; exact np)).1, Option.bind_some, mg_l (a := 10) (by decide), ← eq, hs_self]
      obtain ⟨G2, g1, g2, g3⟩ := set_at w (h6 := hs P 30 9 q) (by rw [hs_ne _ _ _ (by decide), Pne 34 (by decide), qm.c (a := 34) (by decide)]) (by rw [hs_ne _ _ _ (by decide), Pne 37 (by decide), e37]) (p := q) a1.1 (by rw [mg_l (by decide)]; omega)
      have zk2 : zk G2 = zk G := by
        unfold zk
        rw [g2 30 (by decide) (by decide), hs_at, if_pos rfl, if_neg (by decide), Pne 30 (by decide)]
      rw [g1, Option.bind_some, zk2, if_pos (Nat.le_refl _)]
      unfold fX5_readGame_b132 fX5_readGame_b142
      rw [if_pos wr_0]
      obtain ⟨C2, eC⟩ : ∃ C2, C2 = hs (hs (atN S q) 0 10 1) 0 13 (-1) := ⟨_, rfl⟩
      have C2ne : ∀ a : Nat, a ≠ 0 → a ≠ 8 → C2 a = S a := fun a h1 h2 => by rw [eC, hs_ne _ _ _ h1, hs_ne _ _ _ h1, atN_ne h2 h1]
      have C20 : ∀ b : Int, b ≠ 8 → b ≠ 10 → b ≠ 13 → C2 0 b = S 0 b := fun b h1 h2 h3 => by rw [eC, hs_at, if_pos rfl, if_neg h3, hs_at, if_pos rfl, if_neg h2, atN_0 h1]
      have C208 : C2 0 8 = q := by rw [eC, hs_at, if_pos rfl, if_neg (by decide), hs_at, if_pos rfl, if_neg (by decide), atN_08]
      have C210 : C2 0 10 = 1 := by rw [eC, hs_at, if_pos rfl, if_neg (by decide), hs_self]
      have C213 : C2 0 13 = -1 := by rw [eC, hs_self]
      have G2o : ∀ a : Nat, a ≠ 35 → a ≠ 40 → a ≠ 30 → a ≠ 42 → G2 a = G a := fun a h1 h2 h3 h4 => by rw [g2 a h1 h2, hs_ne _ _ _ h3, Pne a h4]
      have G230 : ∀ b : Int, b ≠ 9 → G2 30 b = G 30 b := fun b hb => by rw [g2 30 (by decide) (by decide), hs_at, if_pos rfl, if_neg hb, Pne 30 (by decide)]
      have bdS : bd S = bd (mg C G) := (bd_qc qS).trans (bd_qc (mg_qc e34))
      have wN : Psi (mg C2 G2) := by
        refine w.go (p := q) (by rw [mg_l (by decide)]; omega) (fun a b hn hm => ?_) (by rw [mg_l (by decide), C208]) (by rw [mg_r (by decide), g2 30 (by decide) (by decide), hs_self]) (fun s s0 s1 => ?_) (fun s s0 s1 => by rw [mg_r (by decide), g3 s s0 s1])
        · by_cases ha : a < 30
          · rw [mg_l ha, mg_l ha]
            by_cases a0 : a = 0
            · subst a0
              have h8 : b ≠ 8 := fun k => hm (Or.inr (Or.inr (Or.inl ⟨rfl, k⟩)))
              by_cases h13 : b = 13
              · rw [h13, C213, i3]
              · rw [C20 b h8 (fun k => hn (Or.inr (Or.inl ⟨rfl, by omega⟩))) h13, S0 b (fun k => hn (Or.inr (Or.inl ⟨rfl, by omega⟩)))]
            · rw [C2ne a a0 (fun k => hm (Or.inl k)), Sne a (fun k => hn (Or.inl (by omega))) a0]
          · rw [mg_r (by omega), mg_r (by omega)]
            by_cases a30 : a = 30
            · subst a30
              exact G230 b (fun k => hm (Or.inr (Or.inr (Or.inr ⟨rfl, k⟩))))
            · rw [G2o a (fun k => hm (Or.inr (Or.inl k))) (fun k => hn (Or.inl (by omega))) a30 (fun k => hn (Or.inl (by omega)))]
        · rw [mg_l (by decide), eC, hs_ne _ _ _ (by decide), hs_ne _ _ _ (by decide), atN_8 ⟨s0, s1⟩, bdS]
      have res := next C2 G2 (op + 1) 1 ⟨wN, ?_, ⟨?_, C210, C213, ?_⟩, Or.inr ⟨rfl, by omega⟩, by omega, fun i i0 i1 => ?_⟩ ?_ ?_ (fun a ha => G2o a (by omega) (by omega) (by omega) (by omega)) (fun a ha => by rw [C2ne a (by omega) (by omega), Sne a (by omega) (by omega)])
      · rw [eC] at res
        exact res
      · rw [C2ne 34 (by decide) (by decide), Sne 34 (by decide) (by decide), e34, G2o 34 (by decide) (by decide) (by decide) (by decide)]
      · rw [C20 9 (by decide) (by decide) (by decide), S09]
      · rw [G230 14 (by decide), i4]
      · have e42 : G2 42 i = if i = op then C 0 8 else G 42 i := by rw [g2 42 (by decide) (by decide), hs_ne _ _ _ (by decide), eP, hs_at, if_pos rfl]
        rw [C2ne 24 (by decide) (by decide), S24, e42, C2ne 9 (by decide) (by decide), Sne 9 (by decide) (by decide)]
        by_cases hi : i = op
        · rw [if_pos hi, if_pos hi]
          exact ⟨rfl, by omega, np.2⟩
        · rw [if_neg hi, if_neg hi]
          exact i7 i i0 (by omega)
      · rw [C2ne 19 (by decide) (by decide), Sne 19 (by decide) (by decide)]
      · rw [C2ne 20 (by decide) (by decide), Sne 20 (by decide) (by decide)]
  · rw [if_neg q1, if_neg q1, Option.bind_some]
    exact rg_stop w e34 (by omega) (by omega)
/-- a bracket that closes -/
theorem rg_close {C G : HS} {op mv : Int} {p nfC nfR : Nat} (I : rgI C G op mv p) (hp : (p : Int) < C 19 1) (hv : C 20 p = 41) (next : ∀ C2 G2 op2 mv2, rgI C2 G2 op2 mv2 (p + 1) → C2 19 = C 19 → C2 20 = C 20 → (∀ a : Nat, a < 30 → G2 a = G a) → (∀ a : Nat, 30 ≤ a → C2 a = C a) → rgR (fX5_readGame_L23 (nfC + 1) 0 ((p + 1 : Nat) : Int) C2) (fX6_readGame_L20 nfR op2 mv2 ((p + 1 : Nat) : Int) G2) C G) : rgR (fX5_readGame_L23 (nfC + 2) 0 (p : Int) C) (fX6_readGame_L20 (nfR + 1) op mv (p : Int) G) C G := by
  obtain ⟨w, e34, ⟨i1, i2, i3, i4⟩, i5, i6, i7⟩ := id I
  have qm : zqm G (mg C G) := mg_qm
  have wc : PsiC C := w.cc.sq (mg_qc e34)
  have n := wc.T.1
  have np := wc.P.n
  have n1 := wc.R.n
  have e13 : G 30 13 = C 19 1 := by rw [qm.c30 (b := 13) (by decide), w.T.n2, mg_l (by decide)]
  have e39 : G 39 p = 41 := by rw [qm.c (a := 39) (by decide), (w.T.by_ (p : Int) (by omega) (by rw [mg_l (by decide)]; omega)).1, mg_l (by decide), hv]
  have e37 : G 37 = mg C G 37 := qm.c (by decide)
  obtain ⟨z1, z2⟩ := zk_of w (g := G) (by rw [qm.c30 (b := 8) (by decide), w.R.n2])
  have hp2 : 0 ≤ (p : Int) ∧ (p : Int) < 2000 := by omega
  rw [fX5_readGame_L23, fX6_readGame_L20]
  unfold fX3_size fX6_readGame_b125
  rw [Option.bind_some, if_pos z2, if_pos z2, e13, wr_of (z := C 19 1) (by omega) (by omega), wr_of (z := (p : Int)) (by omega) (by omega), if_neg (by omega), if_pos wr_0, if_neg (by omega), ucX3_get n.2 ⟨by omega, hp⟩, Option.bind_some, Option.bind_some, hv, if_neg (show ¬ wr 41 = 40 by decide), if_pos (show wr 41 = 41 by decide), if_pos hp2, e39, if_neg (show ¬ wr 41 = 40 by decide), if_pos hp2, if_pos (show wr 41 = 41 by decide), wr_of (z := mv) (by omega) (by omega), wr_of (z := op) (by omega) (by omega), if_pos (Nat.le_refl _)]
  unfold fX5_closeVariation
  rw [i1, i2, wr_of (z := mv) (by omega) (by omega), wr_of (z := op) (by omega) (by omega)]
  by_cases q1 : mv = 0
  · rw [if_pos q1, if_pos q1]
    by_cases q2 : op ≤ 0
    · rw [if_pos q2, if_pos (show op = 0 by omega), Option.bind_some]
      exact rg_stop w e34 (by omega) (by omega)
    · obtain ⟨S, eS⟩ : ∃ S, S = hs C 0 9 (op - 1) := ⟨_, rfl⟩
      have Sne : ∀ a : Nat, a ≠ 0 → S a = C a := fun a h1 => by rw [eS, hs_ne _ _ _ h1]
      have S0 : ∀ b : Int, b ≠ 9 → S 0 b = C 0 b := fun b hb => by rw [eS, hs_at, if_pos rfl, if_neg hb]
      have S09 : S 0 9 = op - 1 := by rw [eS, hs_self]
      have qS : zqc S C := fun a b ha hn => by
        by_cases a0 : a = 0
        · subst a0
          exact S0 b (fun k => hn (Or.inr (Or.inl ⟨rfl, Or.inl k⟩)))
        · rw [Sne a a0]
      have wS : PsiC S := wc.sq qS
      obtain ⟨s1, s2, s3⟩ := i7 (op - 1) (by omega) (by omega)
      obtain ⟨q, eq⟩ : ∃ q, q = C 24 (op - 1) := ⟨_, rfl⟩
      rw [← eq] at s1 s2 s3
      have eself := atN_self wS
      rw [S0 8 (by decide)] at eself
      obtain ⟨v, ev⟩ := visit_at wS (p := q) (q := C 0 8) s2 (by rw [Sne 9 (by decide)]; exact s3) np.1 (by rw [Sne 9 (by decide)]; exact np.2)
      rw [eself] at ev
      rw [if_neg q2, if_neg (show ¬ op = 0 by omega), if_pos (by omega), ← eS, S09, Sne 24 (by decide), ← eq, if_pos (by omega), ev, Option.bind_some, Option.bind_some, if_pos (by omega), show op + -1 = op - 1 by omega, ← s1, hs_self]
      obtain ⟨G2, g1, g2, g3⟩ := set_at w (h6 := hs G 30 9 q) (by rw [hs_ne _ _ _ (by decide), qm.c (a := 34) (by decide)]) (by rw [hs_ne _ _ _ (by decide), e37]) (p := q) s2 (by rw [mg_l (by decide)]; exact s3)
      have zk2 : zk G2 = zk G := by
        unfold zk
        rw [g2 30 (by decide) (by decide), hs_at, if_pos rfl, if_neg (by decide)]
      rw [g1, Option.bind_some, zk2, if_pos (Nat.le_refl _)]
      unfold fX5_readGame_b132 fX5_readGame_b142
      rw [if_pos wr_0]
      obtain ⟨C2, eC⟩ : ∃ C2, C2 = hs (atN (h23 S v) q) 0 13 (-1) := ⟨_, rfl⟩
      have C2ne : ∀ a : Nat, a ≠ 0 → a ≠ 8 → a ≠ 23 → C2 a = S a := fun a h1 h2 h3 => by rw [eC, hs_ne _ _ _ h1, atN_ne h2 h1, h23_ne h3]
      have C20 : ∀ b : Int, b ≠ 8 → b ≠ 13 → C2 0 b = S 0 b := fun b h1 h3 => by rw [eC, hs_at, if_pos rfl, if_neg h3, atN_0 h1, h23_ne (by decide)]
      have C208 : C2 0 8 = q := by rw [eC, hs_at, if_pos rfl, if_neg (by decide), atN_08]
      have C213 : C2 0 13 = -1 := by rw [eC, hs_self]
      have G2o : ∀ a : Nat, a ≠ 35 → a ≠ 40 → a ≠ 30 → G2 a = G a := fun a h1 h2 h3 => by rw [g2 a h1 h2, hs_ne _ _ _ h3]
      have G230 : ∀ b : Int, b ≠ 9 → G2 30 b = G 30 b := fun b hb => by rw [g2 30 (by decide) (by decide), hs_at, if_pos rfl, if_neg hb]
      have bdS : bd (h23 S v) = bd (mg C G) := (bd_sq h23_sq).trans ((bd_qc qS).trans (bd_qc (mg_qc e34)))
      have wN : Psi (mg C2 G2) := by
        refine w.go (p := q) (by rw [mg_l (by decide)]; omega) (fun a b hn hm => ?_) (by rw [mg_l (by decide), C208]) (by rw [mg_r (by decide), g2 30 (by decide) (by decide), hs_self]) (fun s s0 s1 => ?_) (fun s s0 s1 => by rw [mg_r (by decide), g3 s s0 s1])
        · by_cases ha : a < 30
          · rw [mg_l ha, mg_l ha]
            by_cases a0 : a = 0
            · subst a0
              have h8 : b ≠ 8 := fun k => hm (Or.inr (Or.inr (Or.inl ⟨rfl, k⟩)))
              by_cases h13 : b = 13
              · rw [h13, C213, i3]
              · rw [C20 b h8 h13, S0 b (fun k => hn (Or.inr (Or.inl ⟨rfl, by omega⟩)))]
            · rw [C2ne a a0 (fun k => hm (Or.inl k)) (fun k => hn (Or.inl (by omega))), Sne a a0]
          · rw [mg_r (by omega), mg_r (by omega)]
            by_cases a30 : a = 30
            · subst a30
              exact G230 b (fun k => hm (Or.inr (Or.inr (Or.inr ⟨rfl, k⟩))))
            · rw [G2o a (fun k => hm (Or.inr (Or.inl k))) (fun k => hn (Or.inl (by omega))) a30]
        · rw [mg_l (by decide), eC, hs_ne _ _ _ (by decide), atN_8 ⟨s0, s1⟩, bdS]
      have res := next C2 G2 (op - 1) mv ⟨wN, ?_, ⟨?_, ?_, C213, ?_⟩, Or.inl q1, by omega, fun i i0 i1 => ?_⟩ ?_ ?_ (fun a ha => G2o a (by omega) (by omega) (by omega)) (fun a ha => by rw [C2ne a (by omega) (by omega) (by omega), Sne a (by omega)])
      · rw [eC] at res
        exact res
      · rw [C2ne 34 (by decide) (by decide) (by decide), Sne 34 (by decide), e34, G2o 34 (by decide) (by decide) (by decide)]
      · rw [C20 9 (by decide) (by decide), S09]
      · rw [C20 10 (by decide) (by decide), S0 10 (by decide), i2]
      · rw [G230 14 (by decide), i4]
      · rw [C2ne 24 (by decide) (by decide) (by decide), Sne 24 (by decide), G2o 42 (by decide) (by decide) (by decide), C2ne 9 (by decide) (by decide) (by decide), Sne 9 (by decide)]
        exact i7 i i0 (by omega)
      · rw [C2ne 19 (by decide) (by decide) (by decide), Sne 19 (by decide)]
      · rw [C2ne 20 (by decide) (by decide) (by decide), Sne 20 (by decide)]
  · rw [if_neg q1, if_neg q1, Option.bind_some]
    exact rg_stop w e34 (by omega) (by omega)
/-- a blank -/
theorem rg_blank {C G : HS} {op mv : Int} {p nfC nfR : Nat} (I : rgI C G op mv p) (hp : (p : Int) < C 19 1) (hv : C 20 p = 32) (next : ∀ C2 G2 op2 mv2, rgI C2 G2 op2 mv2 (p + 1) → C2 19 = C 19 → C2 20 = C 20 → (∀ a : Nat, a < 30 → G2 a = G a) → (∀ a : Nat, 30 ≤ a → C2 a = C a) → rgR (fX5_readGame_L23 (nfC + 1) 0 ((p + 1 : Nat) : Int) C2) (fX6_readGame_L20 nfR op2 mv2 ((p + 1 : Nat) : Int) G2) C G) : rgR (fX5_readGame_L23 (nfC + 2) 0 (p : Int) C) (fX6_readGame_L20 (nfR + 1) op mv (p : Int) G) C G := by
  obtain ⟨w, e34, ⟨i1, i2, i3, i4⟩, i5, i6, i7⟩ := id I
  have qm : zqm G (mg C G) := mg_qm
  have wc : PsiC C := w.cc.sq (mg_qc e34)
  have n := wc.T.1
  have e13 : G 30 13 = C 19 1 := by rw [qm.c30 (b := 13) (by decide), w.T.n2, mg_l (by decide)]
  have e39 : G 39 p = 32 := by rw [qm.c (a := 39) (by decide), (w.T.by_ (p : Int) (by omega) (by rw [mg_l (by decide)]; omega)).1, mg_l (by decide), hv]
  obtain ⟨z1, z2⟩ := zk_of w (g := G) (by rw [qm.c30 (b := 8) (by decide), w.R.n2])
  have hp2 : 0 ≤ (p : Int) ∧ (p : Int) < 2000 := by omega
  have hw : wdB C p = false := wdB_f.mpr (fun k => k.2.1 hv)
  rw [fX5_readGame_L23, fX6_readGame_L20]
  unfold fX3_size
  rw [Option.bind_some, if_pos z2, e13, wr_of (z := C 19 1) (by omega) (by omega), wr_of (z := (p : Int)) (by omega) (by omega), if_neg (by omega), if_pos wr_0, if_neg (by omega), ucX3_get n.2 ⟨by omega, hp⟩, Option.bind_some, Option.bind_some, hv, if_neg (show ¬ wr 32 = 40 by decide), if_neg (show ¬ wr 32 = 41 by decide), cX3_start wc.T (by omega), if_neg (show ¬ (wdB C p = true ∧ wdB C ((p : Int) - 1) = false) from fun k => by rw [hw] at k; exact absurd k.1 (by decide)), Option.bind_some, if_pos wr_0, if_pos hp2, e39, if_neg (show ¬ wr 32 = 40 by decide), if_pos hp2, if_neg (show ¬ wr 32 = 41 by decide), if_pos hp2, if_pos (show wr 32 = 32 by decide), if_pos (Nat.le_refl _)]
  unfold fX5_readGame_b132 fX5_readGame_b142
  rw [if_pos wr_0, hs_id i3]
  exact next C G op mv ⟨w, e34, ⟨i1, i2, i3, i4⟩, i5, by omega, i7⟩ rfl rfl (fun _ _ => rfl) (fun _ _ => rfl)
end ZRGAME
