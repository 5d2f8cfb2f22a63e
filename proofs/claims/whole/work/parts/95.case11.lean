section ZCASE11
theorem Psi.tape2 {o h : HS} (w : Psi h) (t : PsT o) (e : ∀ (a : Nat) (b : Int), ¬ scr a b → ¬ (a = 19 ∨ a = 20 ∨ a = 39 ∨ (a = 30 ∧ b = 13)) → o a b = h a b) : Psi o := by
  have sq : zsq o (fun a => if a = 19 ∨ a = 20 ∨ a = 39 then o a else if a = 30 then (fun b => if b = 13 then o 30 13 else h 30 b) else h a) := fun a b hn => by
    show o a b = (if a = 19 ∨ a = 20 ∨ a = 39 then o a else if a = 30 then (fun b => if b = 13 then o 30 13 else h 30 b) else h a) b
    by_cases h1 : a = 19 ∨ a = 20 ∨ a = 39
    · rw [if_pos h1]
    · rw [if_neg h1]
      by_cases h2 : a = 30
      · subst h2
        rw [if_pos rfl]
        show o 30 b = if b = 13 then o 30 13 else h 30 b
        by_cases h3 : b = 13
        · rw [if_pos h3, h3]
        · rw [if_neg h3]
          exact e 30 b hn (by omega)
      · rw [if_neg h2]
        exact e a b hn (by omega)
  refine Psi.sq ?_ sq
  refine w.tape (t.cg rfl rfl (fun _ => rfl) (fun _ => rfl)) (fun a hn => ?_) (fun b hb => ?_)
  · show (if _ then _ else _) = _
    rw [if_neg (by omega), if_neg (by omega)]
  · show (if b = 13 then _ else _) = _
    rw [if_neg hb]
theorem PsT_of {o : HS} {u : List Int} (t1 : txt (o 19 1) (o 20) u) (t2 : txt (o 30 13) (o 39) u) (hl : u.length ≤ 2000) (hr : ∀ v ∈ u, 0 ≤ v ∧ v ≤ 255) : PsT o := by
  obtain ⟨e1, e2⟩ := txt_eq t1 t2
  have sz := t1.1
  refine ⟨by omega, e1, fun i i0 i1 => ⟨e2 i i0 i1, hr _ (txt_mem t1 i0 i1)⟩⟩
theorem toTape_at {g : HS} {u : List Int} (m : MT u g) (hl : u.length ≤ 2000) : fX6_toTape g = some ((u.length : Int), hs (hcp g 41 0 39 0 (g 30 23)) 30 13 (g 30 23)) ∧ txt (hs (hcp g 41 0 39 0 (g 30 23)) 30 13 (g 30 23) 30 13) (hs (hcp g 41 0 39 0 (g 30 23)) 30 13 (g 30 23) 39) u ∧ (∀ (a : Nat) (b : Int), a ≠ 39 → ¬ (a = 30 ∧ b = 13) → hs (hcp g 41 0 39 0 (g 30 23)) 30 13 (g 30 23) a b = g a b) := by
  have sz := m.2.1
  have e23 : hcp g 41 0 39 0 (g 30 23) 30 23 = g 30 23 := by rw [hcp_ne _ _ _ _ _ (by decide)]
  refine ⟨?_, ?_, fun a b h1 h2 => ?_⟩
  · unfold fX6_toTape
    rw [if_pos (by omega), e23, hs_self, sz]
  · rw [hs_self, hs_ne _ _ _ (by decide)]
    refine txt_cg m.2 (fun i i0 i1 => ?_)
    rw [hcp_eq]
    show (if _ then _ else _) = _
    rw [if_pos (by omega), show (0 : Int) + (i - 0) = i by omega]
  · rw [hs_at]
    by_cases ha : a = 30
    · subst ha
      rw [if_pos rfl, if_neg (fun k => h2 ⟨rfl, k⟩), hcp_ne _ _ _ _ _ (by decide)]
    · rw [if_neg ha, hcp_ne _ _ _ _ _ h1]
theorem zqm.h30 {o h : HS} (e : zqm o h) (v : Int) : zqm (hs o 30 0 v) h := fun a b ha hn => by
  by_cases a30 : a = 30
  · subst a30
    rw [hs_at, if_pos rfl, if_neg (fun k => hn (Or.inr (Or.inr ⟨rfl, Or.inl k⟩)))]
    exact e 30 b ha hn
  · rw [hs_ne _ _ _ a30]
    exact e a b ha hn
theorem frP.qm {g1 g : HS} (f : frP g1 g) : zqm g1 g := fun a b ha hn => by
  by_cases a30 : a = 30
  · subst a30
    exact f.2 b (fun k => hn (Or.inr (Or.inr ⟨rfl, by omega⟩))) (fun k => hn (Or.inr (Or.inr ⟨rfl, by omega⟩)))
  · rw [f.1 a (fun k => hn (Or.inl (by omega))) (fun k => hn (Or.inl (by omega))) a30]
theorem qc_11 {f t : Int} {h : HS} (hf0 : zr f) (ht0 : zr t) (w : Psi h) : ∃ o, fL_c11 f t h = some o ∧ Psi o := by
  have eg : fL_c11 f t h = gC (fL_write f t h) (fX6_write f t) := rfl
  have r0 := whyV_rg (h := h) (f := f) (t := t)
  rw [eg]
  unfold fL_write fX5_write fX5_write_b14 fX3_wipe fX3_size
  rw [fX5_isSq hf0, fX5_isSq ht0]
  simp only [Option.bind_some]
  have ref0 : ∀ g : HS, zqm g h → (0 ≤ f ∧ f < 64) ∧ 0 ≤ t ∧ t < 64 → ∃ g7, fr36 g7 (hs g 30 0 0) ∧ fX6_write f t g = if whyV h f t = 0 then (fX6_putMove f t (hs (hs g7 30 23 0) 30 24 0)).bind fun r5 => (fX6_toTape r5).bind fun r6 => some (r6.1, r6.2) else some (0, hs g7 30 0 2) := by
    intro g e hq
    obtain ⟨g7, e7, f7⟩ := pX6_why w (e.h30 0) hq.1 hq.2
    refine ⟨g7, f7, ?_⟩
    unfold fX6_write fX6_fail
    rw [fX6_isSq hf0, fX6_isSq ht0]
    simp only [Option.bind_some]
    rw [if_pos hq.1, if_pos hq.2, if_neg (show ¬ wr 1 = 0 by decide), if_neg (show ¬ wr 1 = 0 by decide), e7, Option.bind_some, wr_of (z := whyV h f t) (by omega) (by omega)]
    by_cases hy : whyV h f t = 0
    · rw [if_pos hy, if_pos hy, if_pos (Or.inl trivial)]
    · rw [if_neg hy, if_neg hy]
  by_cases hq : (0 ≤ f ∧ f < 64) ∧ 0 ≤ t ∧ t < 64
  · rw [if_pos hq.1, if_pos hq.2, if_neg (show ¬ wr 1 = 0 by decide), if_neg (show ¬ wr 1 = 0 by decide), pX5_why w hq.1 hq.2, Option.bind_some, wr_of (z := whyV h f t) (by omega) (by omega)]
    by_cases hy : whyV h f t = 0
    · have hb := whyV_0 w hq.1 hy
      rw [if_pos hy, if_pos (Or.inl trivial), Option.bind_some]
      dsimp only
      obtain ⟨H, eH⟩ : ∃ H, H = hs (hs h 19 1 0) 19 2 0 := ⟨_, rfl⟩
      have Hne : ∀ a : Nat, a ≠ 19 → H a = h a := fun a ha => by rw [eH, hs_ne _ _ _ ha, hs_ne _ _ _ ha]
      have H1 : H 19 1 = 0 := by rw [eH, hs_at, if_pos rfl, if_neg (by decide), hs_self]
      have c0 : cSt (kOf h) (h 1 5) (h 8) H := ⟨by rw [Hne 1 (by decide)], fun s _ _ => by rw [Hne 8 (by decide)], fun i _ _ => by rw [Hne 3 (by decide)]; rfl, fun i j _ _ _ _ => by rw [Hne 4 (by decide), Hne 5 (by decide), Hne 6 (by decide)]; exact ⟨rfl, rfl, rfl⟩⟩
      have ew := wmT2 w.gg c0 hq.1 hq.2 hb (by rw [H1]; omega)
      rw [Hne 2 (by decide)] at ew
      obtain ⟨u, eu⟩ : ∃ u, u = mvB (kOf h) (h 2) (h 8) f t := ⟨_, rfl⟩
      have ul := mvB_len (K := kOf h) (L := h 2) (b := h 8) (f := f) (t := t)
      obtain ⟨v1, v2⟩ := w.gg.2.1 f hq.1.1 hq.1.2
      have ur := mvB_rg (K := kOf h) (L := h 2) (b := h 8) (f := f) (t := t) (w.K.le (h 8 f / 2) (by omega) (by omega)).2 hq.1 hq.2
      rw [← eu] at ew ul ur
      obtain ⟨X, eX⟩ : ∃ X, X = alT2 u H := ⟨_, rfl⟩
      have Xs : X 19 1 = (u.length : Int) := by rw [eX, alT2_sz, H1]; omega
      have Xt : txt (X 19 1) (X 20) u := by
        have e := alT2_txt u (h := H) (w := []) (by rw [H1]; exact txt_nil)
        rw [List.nil_append] at e
        rw [eX]
        exact e
      have Xne : ∀ a : Nat, a ≠ 19 → a ≠ 20 → X a = h a := fun a h1 h2 => by rw [eX, alT2_ne h1 h2, Hne a h1]
      rw [← eH, ew, Option.bind_some, ← eX, Xs, Option.bind_some, if_pos rfl]
      have qg : zqm (hs X 50 0 (wr (u.length : Int))) h := fun a b ha hn => by
        rw [hs_ne _ _ _ (fun k => hn (Or.inl (by omega))), Xne a (by omega) (by omega)]
      obtain ⟨g7, f7, e7⟩ := ref0 _ qg hq
      have q7 : zqm g7 h := f7.qm.tr (qg.h30 0)
      obtain ⟨P, eP⟩ : ∃ P, P = hs (hs g7 30 23 0) 30 24 0 := ⟨_, rfl⟩
      have Pne : ∀ a : Nat, a ≠ 30 → P a = g7 a := fun a ha => by rw [eP, hs_ne _ _ _ ha, hs_ne _ _ _ ha]
      have Pb : ∀ b : Int, b ≠ 23 → b ≠ 24 → P 30 b = g7 30 b := fun b h1 h2 => by rw [eP, hs_at, if_pos rfl, if_neg h2, hs_at, if_pos rfl, if_neg h1]
      have qP : zqm P h := (show zqm P g7 from fun a b ha hn => by
        by_cases a30 : a = 30
        · subst a30
          exact Pb b (fun k => hn (Or.inr (Or.inr ⟨rfl, by omega⟩))) (fun k => hn (Or.inr (Or.inr ⟨rfl, by omega⟩)))
        · rw [Pne a a30]).tr q7
      have mP : MT [] P := ⟨by rw [eP, hs_self], by rw [eP, hs_at, if_pos rfl, if_neg (by decide), hs_self]; exact txt_nil⟩
      obtain ⟨g8, e8, m8, f8⟩ := mMove w.gg hq.1 hq.2 hb (L := h 2) (w := []) (by simp) (w.ms qP) mP (by rw [qP.c (a := 31) (by decide)]; exact (w.K.le (h 8 f / 2) (by omega) (by omega)).1)
      rw [List.nil_append, ← eu] at m8
      obtain ⟨t1, t2, t3⟩ := toTape_at m8 (by omega)
      have ek : fX6_write f t (hs X 50 0 (wr (u.length : Int))) = some ((u.length : Int), hs (hcp g8 41 0 39 0 (g8 30 23)) 30 13 (g8 30 23)) := by
        rw [e7, if_pos hy, ← eP, e8, Option.bind_some, t1, Option.bind_some]
      obtain ⟨Y, eY⟩ : ∃ Y, Y = hs (hcp g8 41 0 39 0 (g8 30 23)) 30 13 (g8 30 23) := ⟨_, rfl⟩
      rw [← eY] at ek t2 t3
      have Yc : ∀ a : Nat, a < 30 → Y a = X a := fun a ha => by
        funext b
        rw [t3 a b (by omega) (by omega), f8.1 a (by omega) (by omega) (by omega), Pne a (by omega), f7 a (by omega), hs_ne _ _ _ (by omega), hs_ne _ _ _ (by omega)]
      refine ⟨Y, gC_ok ek (by show zr (u.length : Int); unfold zr; omega) rfl ?_ ?_, w.tape2 (PsT_of (u := u) (by rw [Yc 19 (by decide), Yc 20 (by decide)]; exact Xt) t2 (by omega) (fun v hv => by have := ur v hv; omega)) (fun a b hn hm => ?_)⟩
      · rw [t3 30 0 (by decide) (by decide), f8.2 0 (by decide) (by decide), Pb 0 (by decide) (by decide), f7 30 (by decide), hs_self]
      · rw [t3 50 0 (by decide) (by decide), f8.1 50 (by decide) (by decide) (by decide), Pne 50 (by decide), f7 50 (by decide), hs_ne _ _ _ (by decide), hs_self]
      · by_cases ha : a < 30
        · rw [Yc a ha, Xne a (by omega) (by omega)]
        · rw [t3 a b (by omega) (by omega)]
          exact (f8.qm.tr qP) a b (by omega) hn
    · rw [if_neg hy, Option.bind_some, if_neg (show ¬ (3 : Int) = 0 by decide), if_neg (show ¬ (3 : Int) = 1 by decide), if_pos rfl]
      obtain ⟨g7, f7, e7⟩ := ref0 h zqm.rf hq
      rw [if_neg hy] at e7
      exact ⟨_, gC_thr e7 ⟨by unfold zr; omega, by decide⟩ (by simp [hs_at]), w.sq ((f7.sq.tr (zsq.rf.h30 0)).h30 2)⟩
  · have e5 : ∀ B : Option (Int × Int × HS), (if wr (if 0 ≤ f ∧ f < 64 then 1 else 0) = 0 then some ((1, 0, h) : Int × Int × HS) else if wr (if 0 ≤ t ∧ t < 64 then 1 else 0) = 0 then some (1, 0, h) else B) = some (1, 0, h) := fun B => by
      by_cases h1 : 0 ≤ f ∧ f < 64
      · rw [if_pos h1, if_neg (show ¬ wr 1 = 0 by decide), if_neg (show ¬ (0 ≤ t ∧ t < 64) from fun k => hq ⟨h1, k⟩), if_pos wr_0]
      · rw [if_neg h1, if_pos wr_0]
    rw [e5, Option.bind_some, if_neg (show ¬ (1 : Int) = 0 by decide), if_pos rfl]
    refine ⟨_, gC_thr (v1 := 0) (h2 := hs (hs h 30 0 0) 30 0 1) ?_ ⟨by unfold zr; omega, by decide⟩ (by simp [hs_at]), w.sq ((zsq.rf.h30 _).h30 _)⟩
    show fX6_write f t h = _
    unfold fX6_write fX6_write_b19 fX6_fail
    rw [fX6_isSq hf0, fX6_isSq ht0]
    simp only [Option.bind_some]
    by_cases h1 : 0 ≤ f ∧ f < 64
    · rw [if_pos h1, if_neg (show ¬ wr 1 = 0 by decide), if_neg (show ¬ (0 ≤ t ∧ t < 64) from fun k => hq ⟨h1, k⟩), if_pos wr_0]
    · rw [if_neg h1, if_pos wr_0]
end ZCASE11
