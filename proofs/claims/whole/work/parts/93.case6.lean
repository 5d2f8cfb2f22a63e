section ZCASE6
theorem whyV_0 {h : HS} (w : Psi h) {f t : Int} (hf : 0 ≤ f ∧ f < 64) (e : whyV h f t = 0) : 0 ≤ h 8 f := by
  obtain ⟨v1, v2⟩ := w.gg.2.1 f hf.1 hf.2
  rcases (show h 8 f = -1 ∨ 0 ≤ h 8 f by omega) with k | k
  · unfold whyV at e
    have t0 := trn_01 (h := h)
    rw [k, sdOf_m, if_neg (by omega)] at e
    omega
  · exact k
theorem fr36.qm {o h : HS} (e : fr36 o h) : zqm o h := e.sq.qm
theorem qc_6 {f t : Int} {h : HS} (hf0 : zr f) (ht0 : zr t) (w : Psi h) : ∃ o, fL_c6 f t h = some o ∧ Psi o := by
  have eg : fL_c6 f t h = gC (fL_play f t h) (fX6_play_ f t) := rfl
  have n1 := w.R.n
  have r0 := whyV_rg (h := h) (f := f) (t := t)
  rw [eg]
  unfold fL_play fX5_play fX5_play_b14
  rw [fX5_isSq hf0, fX5_isSq ht0]
  simp only [Option.bind_some]
  -- the reference up to why
  have ref0 : ∀ g : HS, zqm g h → (0 ≤ f ∧ f < 64) ∧ 0 ≤ t ∧ t < 64 → ∃ g7, fr36 g7 (hs g 30 0 0) ∧ fX6_play_ f t g = if whyV h f t = 0 then (if wr (g7 30 8) = (200 : Int) then (fX6_known f t g7).bind fun r7 => if wr r7 = ((-1) : Int) then fX6_play__b54 g7 else fX6_play__b60 f t g7 else fX6_play__b60 f t g7) else some (0, hs g7 30 0 2) := by
    intro g e hq
    have e2 : zqm (hs g 30 0 0) h := fun a b ha hn => by
      by_cases a30 : a = 30
      · subst a30
        rw [hs_at, if_pos rfl, if_neg (fun k => hn (Or.inr (Or.inr ⟨rfl, Or.inl k⟩)))]
        exact e 30 b ha hn
      · rw [hs_ne _ _ _ a30]
        exact e a b ha hn
    obtain ⟨g7, e7, f7⟩ := pX6_why w e2 hq.1 hq.2
    refine ⟨g7, f7, ?_⟩
    unfold fX6_play_
    rw [fX6_isSq hf0, fX6_isSq ht0]
    simp only [Option.bind_some]
    rw [if_pos hq.1, if_pos hq.2, if_neg (show ¬ wr 1 = 0 by decide), if_neg (show ¬ wr 1 = 0 by decide), e7, Option.bind_some, wr_of (z := whyV h f t) (by omega) (by omega)]
    by_cases hy : whyV h f t = 0
    · rw [if_pos hy, if_pos hy]
    · rw [if_neg hy, if_neg hy]
      unfold fX6_play__b54 fX6_fail
      rfl
  by_cases hq : (0 ≤ f ∧ f < 64) ∧ 0 ≤ t ∧ t < 64
  · rw [if_pos hq.1, if_pos hq.2, if_neg (show ¬ wr 1 = 0 by decide), if_neg (show ¬ wr 1 = 0 by decide), pX5_why w hq.1 hq.2, Option.bind_some, wr_of (z := whyV h f t) (by omega) (by omega)]
    by_cases hy : whyV h f t = 0
    · have hb := whyV_0 w hq.1 hy
      rw [if_pos hy]
      by_cases hs1 : knV h f t = -1 ∧ 200 ≤ h 9 8
      · rw [followN w.cc hq.1 hq.2 hs1, Option.bind_some, if_pos wr_0, Option.bind_some, if_neg (show ¬ (3 : Int) = 0 by decide), if_neg (show ¬ (3 : Int) = 1 by decide), if_pos rfl]
        obtain ⟨g7, f7, e7⟩ := ref0 h zqm.rf hq
        have q7 : zqm g7 h := f7.qm.tr (zsq.rf.h30 0).qm
        have e8 : fX6_play_ f t h = some (0, hs g7 30 0 2) := by
          rw [e7, if_pos hy, q7.c30 (b := 8) (by decide), w.R.n2, wr_of (z := h 9 8) (by omega) (by omega), if_pos (by omega), knR w q7 hq.1 hq.2, Option.bind_some, hs1.1, if_pos (show wr (-1) = -1 by decide)]
          rfl
        exact ⟨_, gC_thr e8 ⟨by unfold zr; omega, by decide⟩ (by simp [hs_at]), w.sq ((f7.sq.tr (zsq.rf.h30 0)).h30 2)⟩
      · obtain ⟨X, eX, x, -⟩ := followC w.cc hq.1 hq.2 hs1
        obtain ⟨wT, p0, p1⟩ := folT_psi w hq.1 hq.2 hb hs1
        have nT := wT.R.n
        rw [eX, Option.bind_some, if_neg (show ¬ wr 1 = 0 by decide)]
        dsimp only
        rw [x.2.1, Option.bind_some, if_pos rfl]
        have qg : zqm (hs X 50 0 (wr (folP f t h))) h := fun a b ha hn => by
          rw [hs_ne _ _ _ (fun k => hn (Or.inl (by omega))), x.2.2.2 a ha]
        obtain ⟨g7, f7, e7⟩ := ref0 _ qg hq
        have q7 : zqm g7 h := f7.qm.tr (fun a b ha hn => by
          by_cases a30 : a = 30
          · subst a30
            rw [hs_at, if_pos rfl, if_neg (fun k => hn (Or.inr (Or.inr ⟨rfl, Or.inl k⟩)))]
            exact qg 30 b ha hn
          · rw [hs_ne _ _ _ a30]
            exact qg a b ha hn)
        obtain ⟨Y, eY, y⟩ := playOnR w q7 hq.1 hq.2 hs1
        have eb : fX6_play__b60 f t g7 = some (folP f t h, Y) := by
          unfold fX6_play__b60
          rw [eY, Option.bind_some, y.2.1]
        have ek : fX6_play_ f t (hs X 50 0 (wr (folP f t h))) = some (folP f t h, Y) := by
          rw [e7, if_pos hy, eb, knR w q7 hq.1 hq.2, Option.bind_some, q7.c30 (b := 8) (by decide), w.R.n2, wr_of (z := h 9 8) (by omega) (by omega)]
          by_cases h200 : h 9 8 = 200
          · have hk : ¬ knV h f t = -1 := fun k => hs1 ⟨k, by omega⟩
            obtain ⟨⟨k1, k2⟩, -⟩ := knV_rg w.cc hk
            rw [if_pos h200, wr_of (z := knV h f t) (by omega) (by omega), if_neg hk]
          · rw [if_neg h200]
        refine ⟨Y, gC_ok ek (by show zr (folP f t h); unfold zr; omega) rfl ?_ ?_, fol_psi wT ⟨p0, p1⟩ x y (fun a b ha hn => ?_) (fun a b _ _ => rfl)⟩
        · rw [y.2.2.2.2.2.1, f7 30 (by decide), hs_self]
        · rw [y.2.2.2.2.1, f7 50 (by decide), hs_ne _ _ _ (by decide), hs_self]
        · rw [y.2.2.2.1 a ha, f7 a (by omega), hs_ne _ _ _ (by omega), hs_ne _ _ _ (by omega)]
    · rw [if_neg hy, Option.bind_some, if_neg (show ¬ (3 : Int) = 0 by decide), if_neg (show ¬ (3 : Int) = 1 by decide), if_pos rfl]
      obtain ⟨g7, f7, e7⟩ := ref0 h zqm.rf hq
      rw [if_neg hy] at e7
      exact ⟨_, gC_thr e7 ⟨by unfold zr; omega, by decide⟩ (by simp [hs_at]), w.sq ((f7.sq.tr (zsq.rf.h30 0)).h30 2)⟩
  · have e5 : (if wr (if 0 ≤ f ∧ f < 64 then 1 else 0) = 0 then some ((1, 0, h) : Int × Int × HS) else if wr (if 0 ≤ t ∧ t < 64 then 1 else 0) = 0 then some (1, 0, h) else (fX5_reasonAgainst f t h).bind fun r3 => if wr r3.1 = 0 then (fX5_follow f t r3.2).bind fun r4 => if wr r4.1 = 0 then some (3, 0, r4.2) else some (0, r4.2 0 8, r4.2) else some (3, 0, r3.2)) = some (1, 0, h) := by
      by_cases h1 : 0 ≤ f ∧ f < 64
      · rw [if_pos h1, if_neg (show ¬ wr 1 = 0 by decide), if_neg (show ¬ (0 ≤ t ∧ t < 64) from fun k => hq ⟨h1, k⟩), if_pos wr_0]
      · rw [if_neg h1, if_pos wr_0]
    rw [e5, Option.bind_some, if_neg (show ¬ (1 : Int) = 0 by decide), if_pos rfl]
    refine ⟨_, gC_thr (v1 := 0) (h2 := hs (hs h 30 0 0) 30 0 1) ?_ ⟨by unfold zr; omega, by decide⟩ (by simp [hs_at]), w.sq ((zsq.rf.h30 _).h30 _)⟩
    show fX6_play_ f t h = _
    unfold fX6_play_ fX6_play__b19 fX6_fail
    rw [fX6_isSq hf0, fX6_isSq ht0]
    simp only [Option.bind_some]
    by_cases h1 : 0 ≤ f ∧ f < 64
    · rw [if_pos h1, if_neg (show ¬ wr 1 = 0 by decide), if_neg (show ¬ (0 ≤ t ∧ t < 64) from fun k => hq ⟨h1, k⟩), if_pos wr_0]
    · rw [if_neg h1, if_pos wr_0]
/-! all nodes but the first are taken away -/
theorem clr_psi {h o : HS} (w : Psi h) (e : ∀ (a : Nat) (b : Int), ¬ scr a b → ¬ (a = 8 ∨ (9 ≤ a ∧ a ≤ 17) ∨ a = 35 ∨ a = 37 ∨ (a = 0 ∧ b = 8) ∨ (a = 30 ∧ (b = 8 ∨ b = 9))) → o a b = h a b) (e98 : o 9 8 = 1) (e08 : o 0 8 = 0) (e308 : o 30 8 = 1) (e309 : o 30 9 = 0) (z : o 10 0 = -1 ∧ o 11 0 = -1 ∧ o 12 0 = -1 ∧ o 14 0 = 0 ∧ o 15 0 = 0) (z37 : o 37 0 = -1 ∧ o 37 1 = -1 ∧ o 37 2 = -1 ∧ o 37 3 = 0 ∧ o 37 4 = 0) (e8 : ∀ s : Int, 0 ≤ s → s < 64 → o 8 s = h 34 s ∧ o 35 s = h 34 s) : Psi o := by
  have ne : ∀ a : Nat, ¬ (a = 50 ∨ a = 18 ∨ a = 21 ∨ a = 22 ∨ a = 23 ∨ a = 24 ∨ a = 36 ∨ a = 40 ∨ a = 41 ∨ a = 42 ∨ a = 90 ∨ a = 91 ∨ a = 0 ∨ a = 30 ∨ a = 8 ∨ (9 ≤ a ∧ a ≤ 17) ∨ a = 35 ∨ a = 37) → o a = h a := fun a hn => by
    funext b
    exact e a b (fun k => hn (by rcases k with k | k | k <;> omega)) (by omega)
  have n0 : ∀ b : Int, ¬ (b = 8 ∨ b = 9 ∨ b = 10 ∨ b = 11 ∨ b = 12) → o 0 b = h 0 b := fun b hb => e 0 b (fun k => by rcases k with k | k | k <;> omega) (by omega)
  have n30 : ∀ b : Int, ¬ (b = 0 ∨ b = 8 ∨ b = 9 ∨ 17 ≤ b) → o 30 b = h 30 b := fun b hb => e 30 b (fun k => by rcases k with k | k | k <;> omega) (by omega)
  obtain ⟨z1, z2, z3, z4, z5⟩ := z
  refine ⟨w.T.cg (by rw [ne 19 (by decide)]) (n30 _ (by decide)) (fun i => by rw [ne 39 (by decide)]) (fun i => by rw [ne 20 (by decide)]),
   w.E.cg (fun b b0 b1 => n0 _ (by omega)) (fun b b0 b1 => n30 _ (by omega)),
   ⟨by rw [ne 1 (by decide)]; exact w.B.nk, by rw [ne 1 (by decide), n30 _ (by decide)]; exact w.B.nk2, fun s s0 s1 => ?_⟩,
   w.K.cg (by rw [ne 1 (by decide)]) (n30 _ (by decide)) (fun i => by rw [ne 31 (by decide)]) (fun i => by rw [ne 2 (by decide)]),
   w.S.cg (fun i => by rw [ne 32 (by decide)]) (fun i => by rw [ne 3 (by decide)]) (fun i => by rw [ne 33 (by decide)]) (fun i => by rw [ne 4 (by decide)]) (fun i => by rw [ne 5 (by decide)]) (fun i => by rw [ne 6 (by decide)]),
   ⟨by omega, by rw [e98, e308], fun i i0 i1 => ?_, fun i i0 i1 => ?_⟩,
   ⟨fun i i0 i1 j hj => ?_, fun i i0 i1 j j2 hj hj2 _ => ?_⟩, fun p p0 p1 => by omega,
   ⟨by omega, ⟨z1, z2, z3, z4⟩, fun p p0 p1 => by omega, fun s s0 s1 => ?_, fun s s0 s1 => by rw [ne 34 (by decide), ne 1 (by decide)]; exact w.P.f s s0 s1⟩⟩
  · obtain ⟨a1, a2⟩ := e8 s s0 s1
    rw [a1, a2, ne 1 (by decide)]
    exact ⟨rfl, w.P.f s s0 s1⟩
  · obtain rfl : i = 0 := by omega
    rw [Int.mul_zero, Int.zero_add, Int.zero_add, Int.zero_add, Int.zero_add, z1, z2, z3, z4, z5]
    exact z37
  · obtain rfl : i = 0 := by omega
    omega
  · obtain rfl : i = 0 := by omega
    omega
  · obtain rfl : i = 0 := by omega
    omega
  · rw [e08, bd_0 z4, ne 34 (by decide)]
    exact e8 s s0 s1
theorem clearC {h : HS} (w : PsiC h) : ∃ X, fX5_beginAnew h = some X ∧ (∀ (a : Nat) (b : Int), a < 30 → ¬ scr a b → ¬ (a = 8 ∨ (9 ≤ a ∧ a ≤ 17) ∨ (a = 0 ∧ b = 8)) → X a b = h a b) ∧ X 9 8 = 1 ∧ X 0 8 = 0 ∧ (X 10 0 = -1 ∧ X 11 0 = -1 ∧ X 12 0 = -1 ∧ X 14 0 = 0 ∧ X 15 0 = 0) ∧ (∀ s : Int, 0 ≤ s → s < 64 → X 8 s = h 34 s) ∧ (∀ a : Nat, 30 ≤ a → X a = h a) := by
  have n := w.P.n
  have n1 := w.R.n
  obtain ⟨v, ev⟩ := visit_at w (p := 0) (by omega) (by omega) n.1 n.2
  rw [atN_self w] at ev
  unfold fX5_beginAnew fX4_cutToRoot
  rw [ev, Option.bind_some]
  obtain ⟨A, eA⟩ : ∃ A, A = hs (atN (h23 h v) 0) 9 8 0 := ⟨_, rfl⟩
  have A9 : A 9 8 = 0 := by rw [eA, hs_self]
  rw [← eA, pX4_occupy (by omega), Option.bind_some, Option.bind_some]
  have Ane : ∀ a : Nat, a ≠ 9 → a ≠ 8 → a ≠ 0 → a ≠ 23 → A a = h a := fun a h1 h2 h3 h4 => by rw [eA, hs_ne _ _ _ h1, atN_ne h2 h3, h23_ne h4]
  have One : ∀ a : Nat, ¬ (9 ≤ a ∧ a ≤ 17) → occ (-1) (-1) (-1) 0 A a = A a := fun a hn => by
    unfold occ
    rw [hs_ne _ _ _ (by omega), hs_ne _ _ _ (by omega), hs_ne _ _ _ (by omega), hs_ne _ _ _ (by omega), hs_ne _ _ _ (by omega), hs_ne _ _ _ (by omega), hs_ne _ _ _ (by omega), hs_ne _ _ _ (by omega), hs_ne _ _ _ (by omega)]
  refine ⟨_, rfl, fun a b ha hn hm => ?_, by show occ (-1) (-1) (-1) 0 A 9 8 = 1; unfold occ; rw [hs_self, A9]; rfl, ?_, ⟨?_, ?_, ?_, ?_, ?_⟩, fun s s0 s1 => ?_, fun a ha => ?_⟩
  · show occ (-1) (-1) (-1) 0 A a b = h a b
    rw [One a (by omega)]
    by_cases a0 : a = 0
    · subst a0
      rw [eA, hs_ne _ _ _ (by decide), atN_0 (fun k => hm (Or.inr (Or.inr ⟨rfl, k⟩))), h23_ne (by decide)]
    · rw [Ane a (by omega) (by omega) a0 (fun k => hn (Or.inl (by omega)))]
  · show occ (-1) (-1) (-1) 0 A 0 8 = 0
    rw [One 0 (by decide), eA, hs_ne _ _ _ (by decide), atN_08]
  · show occ (-1) (-1) (-1) 0 A 10 0 = -1
    unfold occ; simp [hs_at, A9]
  · show occ (-1) (-1) (-1) 0 A 11 0 = -1
    unfold occ; simp [hs_at, A9]
  · show occ (-1) (-1) (-1) 0 A 12 0 = -1
    unfold occ; simp [hs_at, A9]
  · show occ (-1) (-1) (-1) 0 A 14 0 = 0
    unfold occ; simp [hs_at, A9]
  · show occ (-1) (-1) (-1) 0 A 15 0 = 0
    unfold occ; simp [hs_at, A9]
  · show occ (-1) (-1) (-1) 0 A 8 s = h 34 s
    rw [One 8 (by decide), eA, hs_ne _ _ _ (by decide), atN_8 ⟨s0, s1⟩, bd_sq h23_sq, bd_0 w.P.z.2.2.2]
  · show occ (-1) (-1) (-1) 0 A a = h a
    rw [One a (by omega), Ane a (by omega) (by omega) (by omega) (by omega)]
theorem clearR {h g : HS} (w : Psi h) (e : zqm g h) : ∃ Y, fX6_clearNodes g = some Y ∧ (∀ (a : Nat) (b : Int), 30 ≤ a → ¬ scr a b → ¬ (a = 35 ∨ a = 37 ∨ (a = 30 ∧ (b = 8 ∨ b = 9))) → Y a b = h a b) ∧ Y 30 8 = 1 ∧ Y 30 9 = 0 ∧ (Y 37 0 = -1 ∧ Y 37 1 = -1 ∧ Y 37 2 = -1 ∧ Y 37 3 = 0 ∧ Y 37 4 = 0) ∧ (∀ s : Int, 0 ≤ s → s < 64 → Y 35 s = h 34 s) ∧ (∀ a : Nat, a < 30 → Y a = g a) ∧ Y 50 = g 50 ∧ Y 30 0 = g 30 0 := by
  have n1 := w.R.n
  obtain ⟨f0, f1, f2, f3, f4⟩ := w.R.f 0 (by omega) (by omega)
  obtain ⟨z1, z2, z3, z4⟩ := w.P.z
  unfold fX6_clearNodes fX6_set
  rw [if_pos (by omega), if_pos (by omega)]
  obtain ⟨A, eA⟩ : ∃ A, A = hs (hs (hs g 30 8 1) 37 4 0) 30 9 0 := ⟨_, rfl⟩
  rw [← eA]
  have e19 : fX6_set_L19 zF 0 0 (hcp A 34 0 35 0 64) = some (hcp A 34 0 35 0 64) := by
    show fX6_set_L19 (4999 + 1) 0 0 _ = _
    rw [fX6_set_L19]
    rw [if_pos (by decide)]
    show fX6_set_L47 (4999 + 1) (0 - 1) _ = _
    rw [fX6_set_L47]
    rw [if_pos (by decide)]
  rw [e19, Option.bind_some]
  have Ane : ∀ a : Nat, a ≠ 30 → a ≠ 37 → A a = g a := fun a h1 h2 => by rw [eA, hs_ne _ _ _ h1, hs_ne _ _ _ h2, hs_ne _ _ _ h1]
  have cne : ∀ a : Nat, a ≠ 35 → hcp A 34 0 35 0 64 a = A a := fun a ha => hcp_ne _ _ _ _ _ ha
  have A37 : ∀ x, x ≠ 4 → A 37 x = h 37 x := fun x hx => by rw [eA, hs_ne _ _ _ (by decide), hs_at, if_pos rfl, if_neg hx, hs_ne _ _ _ (by decide), e.c (a := 37) (by decide)]
  refine ⟨_, rfl, fun a b ha hn hm => ?_, ?_, ?_, ⟨?_, ?_, ?_, ?_, ?_⟩, fun s s0 s1 => ?_, fun a ha => by rw [cne a (by omega), Ane a (by omega) (by omega)], by rw [cne 50 (by decide), Ane 50 (by decide) (by decide)], ?_⟩
  · rw [cne a (fun k => hm (Or.inl k))]
    by_cases a30 : a = 30
    · subst a30
      rw [eA, hs_at, if_pos rfl, if_neg (fun k => hm (Or.inr (Or.inr ⟨rfl, Or.inr k⟩))), hs_ne _ _ _ (by decide), hs_at, if_pos rfl, if_neg (fun k => hm (Or.inr (Or.inr ⟨rfl, Or.inl k⟩)))]
      exact e 30 b ha hn
    · rw [Ane a a30 (fun k => hm (Or.inr (Or.inl k)))]
      exact e a b ha hn
  · rw [cne 30 (by decide), eA]; simp [hs_at]
  · rw [cne 30 (by decide), eA]; simp [hs_at]
  · rw [cne 37 (by decide), A37 0 (by decide)]
    rw [Int.mul_zero] at f0
    rw [f0, z1]
  · rw [cne 37 (by decide), A37 1 (by decide)]
    rw [Int.mul_zero, Int.zero_add] at f1
    rw [f1, z2]
  · rw [cne 37 (by decide), A37 2 (by decide)]
    rw [Int.mul_zero, Int.zero_add] at f2
    rw [f2, z3]
  · rw [cne 37 (by decide), A37 3 (by decide)]
    rw [Int.mul_zero, Int.zero_add] at f3
    rw [f3, z4]
  · rw [cne 37 (by decide), eA]; simp [hs_at]
  · rw [hcp_eq]
    show (if _ then _ else _) = _
    rw [if_pos (by omega), Ane 34 (by decide) (by decide), e.c (a := 34) (by decide), show (0 : Int) + (s - 0) = s by omega]
  · rw [cne 30 (by decide), eA]; simp [hs_at]
theorem qc_19 {h : HS} (w : Psi h) : ∃ o, fL_c19 h = some o ∧ Psi o := by
  have n1 := w.R.n
  obtain ⟨X, eX, x1, x2, x3, x4, x5, x6⟩ := clearC w.cc
  have qX : zqm X h := fun a b ha _ => by rw [x6 a ha]
  have qX0 : zqm (hs X 30 0 0) h := fun a b ha hn => by
    by_cases a30 : a = 30
    · subst a30
      rw [hs_at, if_pos rfl, if_neg (fun k => hn (Or.inr (Or.inr ⟨rfl, Or.inl k⟩)))]
      exact qX 30 b ha hn
    · rw [hs_ne _ _ _ a30]
      exact qX a b ha hn
  obtain ⟨Y, eY, y1, y2, y3, y4, y5, y6, y7, y8⟩ := clearR w qX0
  unfold fL_c19 fX5_clear fX6_clear fX4_size
  rw [Option.bind_some, eX, Option.bind_some, Option.bind_some, eY, Option.bind_some, Option.bind_some]
  have e8 : hs X 30 0 0 30 8 = h 9 8 := by rw [qX0.c30 (by decide), w.R.n2]
  refine ⟨Y, if_pos (by rw [e8]), clr_psi w (fun a b hn hm => ?_) ?_ ?_ y2 y3 ?_ y4 (fun s s0 s1 => ⟨?_, y5 s s0 s1⟩)⟩
  · by_cases ha : a < 30
    · rw [y6 a ha, hs_ne _ _ _ (by omega)]
      exact x1 a b ha hn (by omega)
    · exact y1 a b (by omega) hn (by omega)
  · rw [y6 9 (by decide), hs_ne _ _ _ (by decide), x2]
  · rw [y6 0 (by decide), hs_ne _ _ _ (by decide), x3]
  · rw [y6 10 (by decide), y6 11 (by decide), y6 12 (by decide), y6 14 (by decide), y6 15 (by decide), hs_ne _ _ _ (by decide), hs_ne _ _ _ (by decide), hs_ne _ _ _ (by decide), hs_ne _ _ _ (by decide), hs_ne _ _ _ (by decide)]
    exact x4
  · rw [y6 8 (by decide), hs_ne _ _ _ (by decide), x5 s s0 s1]
end ZCASE6
