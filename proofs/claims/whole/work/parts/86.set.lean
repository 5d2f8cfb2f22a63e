section ZSET
/-! the reference sets its board anew -/
theorem pX6_get {h g : HS} (w : Psi h) (e37 : g 37 = h 37) {q : Int} (hq : 0 ≤ q ∧ q < h 9 8) : fX6_get q 0 g = some (h 10 q) ∧ fX6_get q 1 g = some (h 11 q) ∧ fX6_get q 2 g = some (h 12 q) ∧ fX6_get q 3 g = some (h 14 q) ∧ fX6_get q 4 g = some (h 15 q) := by
  have n := w.R.n
  obtain ⟨f0, f1, f2, f3, f4⟩ := w.R.f q hq.1 hq.2
  unfold fX6_get
  rw [if_pos (by omega), if_pos (by omega), if_pos (by omega), if_pos (by omega), if_pos (by omega), e37, Int.add_zero, f0, f1, f2, f3, f4]
  exact ⟨rfl, rfl, rfl, rfl, rfl⟩
theorem setUp {h : HS} (w : Psi h) {p : Int} (p0 : 0 ≤ p) (p1 : p < h 9 8) {len : Nat} (hl : h 14 p = len) : ∀ (nf k : Nat) (g : HS), g 37 = h 37 → (∀ i : Nat, i < k → g 40 i = anc h i p) → k ≤ len → len - k < nf → ∃ g2, fX6_set_L19 nf (k : Int) (anc h k p) g = fX6_set_L47 zF ((len : Int) - 1) g2 ∧ (∀ a : Nat, a ≠ 40 → g2 a = g a) ∧ ∀ i : Nat, i < len → g2 40 i = anc h i p
  | 0, k, g, hg, hv, h1, h2 => by omega
  | nf + 1, k, g, hg, hv, h1, h2 => by
    have dr := w.P.dp w.R p p0 p1
    have n := w.R.n
    obtain ⟨⟨i1, i2⟩, i3⟩ := anc_in w.cc p0 p1 k (by omega)
    rw [fX6_set_L19]
    rw [wr_of (z := anc h k p) (by omega) (by omega)]
    by_cases hk : k = len
    · have e0 := anc_end w.cc p0 p1 (k := k) (by omega)
      rw [if_pos (by omega), hk]
      exact ⟨g, rfl, fun _ _ => rfl, fun i hi => hv i (by omega)⟩
    · have q1 := anc_pos w.cc p0 p1 (k := k) (by omega)
      have ne : ∀ a : Nat, a ≠ 40 → hs g 40 (k : Int) (anc h k p) a = g a := fun a ha => hs_ne _ _ _ ha
      rw [if_neg (by omega), if_pos (by omega), (pX6_get w (g := hs g 40 (k : Int) (anc h k p)) (by rw [ne 37 (by decide)]; exact hg) ⟨i1, i2⟩).1, Option.bind_some, show (k : Int) + 1 = ((k + 1 : Nat) : Int) by omega]
      obtain ⟨g2, e1, e2, e3⟩ := setUp w p0 p1 hl nf (k + 1) (hs g 40 (k : Int) (anc h k p)) (by rw [ne 37 (by decide)]; exact hg) (fun i hi => by
        rw [hs_at, if_pos rfl]
        by_cases e : i = k
        · subst e
          rw [if_pos rfl]
        · rw [if_neg (by omega)]
          exact hv i (by omega)) (by omega) (by omega)
      exact ⟨g2, e1, fun a ha => by rw [e2 a ha, ne a ha], e3⟩
theorem setDown {h : HS} (w : Psi h) {p : Int} (p0 : 0 ≤ p) (p1 : p < h 9 8) : ∀ (nf j : Nat) (g : HS), g 37 = h 37 → (j : Int) ≤ h 14 p → (∀ i : Nat, i < j → g 40 i = anc h i p) → (∀ s : Int, 0 ≤ s → s < 64 → g 35 s = bd h (anc h j p) s) → j < nf → ∃ g2, fX6_set_L47 nf ((j : Int) - 1) g = some g2 ∧ (∀ a : Nat, a ≠ 35 → g2 a = g a) ∧ ∀ s : Int, 0 ≤ s → s < 64 → g2 35 s = bd h p s
  | 0, j, g, hg, h1, h2, h3, h4 => by omega
  | nf + 1, j, g, hg, h1, h2, h3, h4 => by
    have dr := w.P.dp w.R p p0 p1
    rw [fX6_set_L47]
    rw [wr_of (z := (j : Int) - 1) (by omega) (by omega)]
    cases j with
    | zero =>
      rw [if_pos (by omega)]
      exact ⟨g, rfl, fun _ _ => rfl, h3⟩
    | succ j =>
      obtain ⟨⟨i1, i2⟩, i3⟩ := anc_in w.cc p0 p1 j (by omega)
      have q1 := anc_pos w.cc p0 p1 (k := j) (by omega)
      obtain ⟨a1, a2, a3, a4, a5, a6⟩ := w.P.t _ q1 i2
      have pg := pX6_get w hg (q := anc h j p) ⟨i1, i2⟩
      rw [if_neg (by omega), if_pos (by omega), show ((j + 1 : Nat) : Int) - 1 = (j : Int) by omega, h2 j (by omega), pg.2.1, Option.bind_some, if_pos (by omega), pg.2.2.1, Option.bind_some, umX6_play a3 a4, Option.bind_some, show (j : Int) + -1 = (j : Int) - 1 by omega]
      obtain ⟨g2, e1, e2, e3⟩ := setDown w p0 p1 nf j (mvM (h 11 (anc h j p)) (h 12 (anc h j p)) g) (by rw [mvM_at (by decide)]; exact hg) (by omega) (fun i hi => by rw [mvM_at (by decide)]; exact h2 i (by omega)) (fun s s0 s1 => by
        rw [mvM_35, w.P.bs w.R q1 i2]
        unfold mv
        have k1 := h3 s s0 s1
        have k2 := h3 (h 11 (anc h j p)) a3.1 a3.2
        rw [k1, k2]
        rfl) (by omega)
      exact ⟨g2, e1, fun a ha => by rw [e2 a ha, mvM_at ha], e3⟩
theorem set_at {h h6 : HS} (w : Psi h) (e34 : h6 34 = h 34) (e37 : h6 37 = h 37) {p : Int} (p0 : 0 ≤ p) (p1 : p < h 9 8) : ∃ h7, fX6_set p h6 = some h7 ∧ (∀ a : Nat, a ≠ 35 → a ≠ 40 → h7 a = h6 a) ∧ ∀ s : Int, 0 ≤ s → s < 64 → h7 35 s = bd h p s := by
  have dp := w.P.dp w.R p p0 p1
  have n := w.R.n
  obtain ⟨len, hl⟩ : ∃ len : Nat, h 14 p = len := ⟨(h 14 p).toNat, by omega⟩
  have ne : ∀ a : Nat, a ≠ 35 → hcp h6 34 0 35 0 64 a = h6 a := fun a ha => hcp_ne _ _ _ _ _ ha
  obtain ⟨g2, e1, e2, e3⟩ := setUp w p0 p1 hl zF 0 (hcp h6 34 0 35 0 64) (by rw [ne 37 (by decide)]; exact e37) (fun i hi => by omega) (by omega) (by unfold zF; omega)
  obtain ⟨g3, e4, e5, e6⟩ := setDown w p0 p1 zF len g2 (by rw [e2 37 (by decide), ne 37 (by decide)]; exact e37) (by omega) e3 (fun s s0 s1 => by
    rw [anc_end w.cc p0 p1 (k := len) (by omega), bd_0 w.P.z.2.2.2, e2 35 (by decide), hcp_eq]
    show (if _ then _ else _) = _
    rw [if_pos (by omega), e34, show (0 : Int) + (s - 0) = s by omega]) (by unfold zF; omega)
  refine ⟨g3, ?_, fun a h35 h40 => by rw [e5 a h35, e2 a h40, ne a h35], e6⟩
  unfold fX6_set
  rw [if_pos (by omega)]
  exact e1.trans e4
/-- another node is the present one, on both sides -/
theorem Psi.go {o h : HS} (w : Psi h) {p : Int} (hp : 0 ≤ p ∧ p < h 9 8) (e : ∀ (a : Nat) (b : Int), ¬ scr a b → ¬ (a = 8 ∨ a = 35 ∨ (a = 0 ∧ b = 8) ∨ (a = 30 ∧ b = 9)) → o a b = h a b) (e08 : o 0 8 = p) (e309 : o 30 9 = p) (e8 : ∀ s : Int, 0 ≤ s → s < 64 → o 8 s = bd h p s) (e35 : ∀ s : Int, 0 ≤ s → s < 64 → o 35 s = bd h p s) : Psi o := by
  have ne : ∀ a : Nat, ¬ (a = 50 ∨ a = 18 ∨ a = 21 ∨ a = 22 ∨ a = 23 ∨ a = 24 ∨ a = 36 ∨ a = 40 ∨ a = 41 ∨ a = 42 ∨ a = 90 ∨ a = 91 ∨ a = 0 ∨ a = 30 ∨ a = 8 ∨ a = 35) → o a = h a := fun a hn => by
    funext b
    exact e a b (fun k => hn (by rcases k with k | k | k <;> omega)) (by omega)
  have n0 : ∀ b : Int, ¬ (b = 8 ∨ b = 9 ∨ b = 10 ∨ b = 11 ∨ b = 12) → o 0 b = h 0 b := fun b hb => e 0 b (fun k => by rcases k with k | k | k <;> omega) (by omega)
  have n30 : ∀ b : Int, ¬ (b = 0 ∨ b = 9 ∨ 17 ≤ b) → o 30 b = h 30 b := fun b hb => e 30 b (fun k => by rcases k with k | k | k <;> omega) (by omega)
  have eb : bd o = bd h := bd_eq (ne 10 (by decide)) (ne 11 (by decide)) (ne 12 (by decide)) (ne 14 (by decide)) (ne 34 (by decide))
  refine ⟨w.T.cg (by rw [ne 19 (by decide)]) (n30 _ (by decide)) (fun i => by rw [ne 39 (by decide)]) (fun i => by rw [ne 20 (by decide)]),
   w.E.cg (fun b b0 b1 => n0 _ (by omega)) (fun b b0 b1 => n30 _ (by omega)),
   ⟨by rw [ne 1 (by decide)]; exact w.B.nk, by rw [ne 1 (by decide), n30 _ (by decide)]; exact w.B.nk2, fun s s0 s1 => ?_⟩,
   w.K.cg (by rw [ne 1 (by decide)]) (n30 _ (by decide)) (fun i => by rw [ne 31 (by decide)]) (fun i => by rw [ne 2 (by decide)]),
   w.S.cg (fun i => by rw [ne 32 (by decide)]) (fun i => by rw [ne 3 (by decide)]) (fun i => by rw [ne 33 (by decide)]) (fun i => by rw [ne 4 (by decide)]) (fun i => by rw [ne 5 (by decide)]) (fun i => by rw [ne 6 (by decide)]),
   w.R.cg (by rw [ne 9 (by decide)]) (n30 _ (by decide)) (fun i => by rw [ne 37 (by decide)]) (fun i => by rw [ne 10 (by decide), ne 11 (by decide), ne 12 (by decide), ne 14 (by decide), ne 15 (by decide)]; exact ⟨rfl, rfl, rfl, rfl, rfl⟩),
   w.C.cg (by rw [ne 9 (by decide)]) (fun i => by rw [ne 16 (by decide)]) (fun i => by rw [ne 17 (by decide)]) (fun i => by rw [ne 38 (by decide)]) (fun i => by rw [ne 10 (by decide)]) (fun i => by rw [ne 15 (by decide)]),
   w.A.cg (ne 9 (by decide)) (ne 10 (by decide)) (ne 15 (by decide)) (ne 16 (by decide)) (ne 17 (by decide)),
   ⟨by rw [e08, e309, ne 9 (by decide)]; exact ⟨hp, rfl⟩, by rw [ne 10 (by decide), ne 11 (by decide), ne 12 (by decide), ne 14 (by decide)]; exact w.P.z, by rw [eb, ne 9 (by decide), ne 10 (by decide), ne 11 (by decide), ne 12 (by decide), ne 13 (by decide), ne 14 (by decide)]; exact w.P.t, fun s s0 s1 => by rw [eb, e08]; exact ⟨e8 s s0 s1, e35 s s0 s1⟩, fun s s0 s1 => by rw [ne 34 (by decide), ne 1 (by decide)]; exact w.P.f s s0 s1⟩⟩
  have r := w.P.rg w.R p.toNat p (by omega) hp.1 hp.2 s s0 s1
  rw [e35 s s0 s1, e8 s s0 s1, ne 1 (by decide)]
  exact ⟨rfl, r⟩
theorem turn_at {h : HS} (w : PsiC h) {p : Int} (hp : 0 ≤ p ∧ p < h 9 8) : fX5_turn (atN h p) = some (h 14 p % 2) := by
  have d := w.P.dp w.R p hp.1 hp.2
  unfold fX5_turn fX4_depth
  rw [atN_08, atN_row w.R hp (by decide) (by decide), Option.bind_some, if_pos (by omega)]
theorem qc_15 {p : Int} {h : HS} (hp : zr p) (w : Psi h) : ∃ o, fL_c15 p h = some o ∧ Psi o := by
  have eg : fL_c15 p h = gC (fL_goTo p h) (fX6_goTo p) := rfl
  have n := w.R.n
  have n2 := w.R.n2
  have np := w.P.n.1
  rw [eg]
  unfold fL_goTo fX5_goTo
  rw [pX4_has hp n, Option.bind_some]
  by_cases h1 : 0 ≤ p ∧ p < h 9 8
  · have dp := w.P.dp w.R p h1.1 h1.2
    obtain ⟨v, ev⟩ := visit_at w.cc h1.1 h1.2 np.1 np.2
    rw [atN_self w.cc] at ev
    have w2 : Psi (h23 h v) := w.sq h23_sq
    have et := turn_at w2.cc (p := p) (by rw [h23_ne (by decide)]; exact h1)
    rw [h23_ne (by decide)] at et
    rw [if_pos h1, if_neg (show ¬ wr 1 = 0 by decide), ev, Option.bind_some, et, Option.bind_some, Option.bind_some, if_pos rfl]
    obtain ⟨H, eH⟩ : ∃ H, H = hs (atN (h23 h v) p) 50 0 (wr (h 14 p % 2)) := ⟨_, rfl⟩
    have Hne : ∀ a : Nat, a ≠ 50 → a ≠ 8 → a ≠ 0 → a ≠ 23 → H a = h a := fun a a1 a2 a3 a4 => by rw [eH, hs_ne _ _ _ a1, atN_ne a2 a3, h23_ne a4]
    have H50 : H 50 0 = wr (h 14 p % 2) := by rw [eH, hs_self]
    have S9 : ∀ a : Nat, a ≠ 30 → hs (hs H 30 0 0) 30 9 p a = H a := fun a ha => by rw [hs_ne _ _ _ ha, hs_ne _ _ _ ha]
    obtain ⟨h7, e7, f7, b7⟩ := set_at w (h6 := hs (hs H 30 0 0) 30 9 p) (by rw [S9 34 (by decide), Hne 34 (by decide) (by decide) (by decide) (by decide)]) (by rw [S9 37 (by decide), Hne 37 (by decide) (by decide) (by decide) (by decide)]) h1.1 h1.2
    have e309 : h7 30 9 = p := by rw [f7 30 (by decide) (by decide)]; simp [hs_at]
    have e37 : h7 37 = h 37 := by rw [f7 37 (by decide) (by decide), S9 37 (by decide), Hne 37 (by decide) (by decide) (by decide) (by decide)]
    have hk : fX6_goTo p (hs (atN (h23 h v) p) 50 0 (wr (h 14 p % 2))) = some (h 14 p % 2, h7) := by
      rw [← eH]
      unfold fX6_goTo fX6_turn
      have z8 : hs H 30 0 0 30 8 = h 9 8 := by rw [hs_at, if_pos rfl, if_neg (by decide), Hne 30 (by decide) (by decide) (by decide) (by decide), n2]
      rw [pX6_isNode hp (by rw [z8]; exact n), z8, if_pos h1, Option.bind_some, if_neg (show ¬ wr 1 = 0 by decide), e7, Option.bind_some, e309, (pX6_get w e37 h1).2.2.2.1, Option.bind_some, if_pos (by omega), Option.bind_some]
    refine ⟨h7, gC_ok hk (by show zr (h 14 p % 2); unfold zr; omega) rfl (by rw [f7 30 (by decide) (by decide)]; simp [hs_at]) (by rw [f7 50 (by decide) (by decide), S9 50 (by decide), H50]), ?_⟩
    refine w.go h1 (fun a b hn hm => ?_) ?_ e309 (fun s s0 s1 => ?_) b7
    · have a35 : a ≠ 35 := fun k => hm (Or.inr (Or.inl k))
      have a8 : a ≠ 8 := fun k => hm (Or.inl k)
      have a40 : a ≠ 40 := fun k => hn (Or.inl (by omega))
      have a50 : a ≠ 50 := fun k => hn (Or.inl (by omega))
      have a23 : a ≠ 23 := fun k => hn (Or.inl (by omega))
      rw [f7 a a35 a40]
      by_cases a30 : a = 30
      · subst a30
        have b9 : b ≠ 9 := fun k => hm (Or.inr (Or.inr (Or.inr ⟨rfl, k⟩)))
        have b0 : b ≠ 0 := fun k => hn (Or.inr (Or.inr ⟨rfl, Or.inl k⟩))
        rw [hs_at, if_pos rfl, if_neg b9, hs_at, if_pos rfl, if_neg b0, Hne 30 (by decide) (by decide) (by decide) (by decide)]
      · rw [S9 a a30]
        by_cases a0 : a = 0
        · subst a0
          have b8 : b ≠ 8 := fun k => hm (Or.inr (Or.inr (Or.inl ⟨rfl, k⟩)))
          rw [eH, hs_ne _ _ _ (by decide), atN_0 b8, h23_ne (by decide)]
        · rw [Hne a a50 a8 a0 a23]
    · rw [f7 0 (by decide) (by decide), S9 0 (by decide), eH, hs_ne _ _ _ (by decide), atN_08]
    · rw [f7 8 (by decide) (by decide), S9 8 (by decide), eH, hs_ne _ _ _ (by decide), atN_8 ⟨s0, s1⟩, bd_sq h23_sq]
  · rw [if_neg h1, if_pos wr_0, Option.bind_some, if_neg (show ¬ (1 : Int) = 0 by decide), if_pos rfl]
    refine ⟨_, gC_thr (v1 := 0) (h2 := hs (hs h 30 0 0) 30 0 1) ?_ ⟨by unfold zr; omega, by decide⟩ (by simp [hs_at]), w.sq ((zsq.rf.h30 _).h30 _)⟩
    show fX6_goTo p h = _
    unfold fX6_goTo fX6_fail
    have z8 : hs h 30 0 0 30 8 = h 9 8 := by rw [hs_at, if_pos rfl, if_neg (by decide), n2]
    rw [pX6_isNode hp (by rw [z8]; exact n), z8, if_neg h1, Option.bind_some, if_pos wr_0]
    rfl
end ZSET
