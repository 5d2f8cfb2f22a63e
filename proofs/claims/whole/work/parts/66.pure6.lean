section ZPURE6
theorem hz_at (h : HS) (i a : Nat) (b : Int) : hz h i a b = if a = i then 0 else h a b := by
  unfold hz
  by_cases e : a = i
  · rw [if_pos e, if_pos e]
  · rw [if_neg e, if_neg e]
theorem fdE_at {p q r t : Int} {h : HS} {a : Nat} {b : Int} (h1 : a ≠ 39) (h2 : a ≠ 91) (h3 : ¬ (a = 30 ∧ b = 13)) : fdE p q r t h a b = h a b := by
  have e1 : fdM p q r t h a b = h a b := by
    unfold fdM
    rw [mdU_at h1, mdU_at h1, mdU_at h1]
    unfold fdT
    rw [hs_at, if_neg h2, hs_at, if_neg h2, hs_at, if_neg h2, hz_at, if_neg h2, hs_at, if_neg h1]
  unfold fdE
  rw [hz_at, if_neg h2, hs_at]
  by_cases ha : a = 30
  · subst ha
    rw [if_pos rfl, if_neg (fun e => h3 ⟨rfl, e⟩), e1]
  · rw [if_neg ha, e1]
theorem fdE_39 {p q r t : Int} {h : HS} {i : Int} : fdE p q r t h 39 i = fdM p q r t h 39 i := by
  unfold fdE
  rw [hz_at, if_neg (by decide), hs_at, if_neg (by decide)]
/-- all but the tape is what it was -/
def frT (o h : HS) : Prop := ∀ (a : Nat) (b : Int), a ≠ 19 → a ≠ 20 → a ≠ 39 → a ≠ 50 → a ≠ 91 → ¬ (a = 30 ∧ (b = 0 ∨ b = 13)) → o a b = h a b
theorem pc_7 {p q r t : Int} {h : HS} (hp : zr p) (hq : zr q) (hr : zr r) (ht : zr t) (hT : PsT h) : ∃ o, fL_c7 p q r t h = some o ∧ (zeqv o h ∨ (PsT o ∧ frT o h)) := by
  have eg : fL_c7 p q r t h = gC (fL_feed p q r t h) (fX6_feed p q r t) := rfl
  obtain ⟨n, n2, hb⟩ := id hT
  have e7 := pX6_feed (h := h) hp hq hr ht (by omega)
  rw [n2] at e7
  rw [eg]
  unfold fL_feed
  rw [pX5_feed hp hq hr ht n]
  by_cases h1 : fdOk p q r t
  · rw [if_pos h1] at e7 ⊢
    obtain ⟨g1, g2, g3, g4⟩ := h1
    have a1 := xU_le q (h 19 1 + 1)
    have a2 := xU_le r (xU q (h 19 1 + 1))
    have a3 := xU_le t (xU r (xU q (h 19 1 + 1)))
    by_cases h2 : fdN q r t (h 19 1) ≤ 2000
    · rw [if_pos h2, Option.bind_some, if_pos rfl]
      have h2' := h2
      unfold fdN at h2'
      have hc30 : ∀ b, apU t (apU r (apU q (apT p h))) 30 b = h 30 b := fun b => by
        rw [apU_at (by decide) (by decide), apU_at (by decide) (by decide), apU_at (by decide) (by decide)]
        unfold apT
        simp [hs_at]
      have hc39 : ∀ b, apU t (apU r (apU q (apT p h))) 39 b = h 39 b := fun b => by
        rw [apU_at (by decide) (by decide), apU_at (by decide) (by decide), apU_at (by decide) (by decide)]
        unfold apT
        simp [hs_at]
      obtain ⟨hc, ehc⟩ : ∃ hc, hc = apU t (apU r (apU q (apT p h))) := ⟨_, rfl⟩
      obtain ⟨v, ev⟩ : ∃ v, v = fdN q r t (h 19 1) := ⟨_, rfl⟩
      obtain ⟨H0, eH⟩ : ∃ H0, H0 = hs (hs hc 50 0 (wr v)) 30 0 0 := ⟨_, rfl⟩
      have H13 : H0 30 13 = h 19 1 := by rw [eH]; simp only [hs_at]; simp; rw [ehc, hc30, n2]
      have ek := pX6_feed (h := hs hc 50 0 (wr v)) hp hq hr ht (by simp only [hs_at]; simp; rw [ehc, hc30]; omega)
      have k13 : hs hc 50 0 (wr v) 30 13 = h 19 1 := by simp only [hs_at]; simp; rw [ehc, hc30, n2]
      rw [if_pos ⟨g1, g2, g3, g4⟩, k13, if_pos h2, ← eH, ← ev] at ek
      -- the tapes
      have t0 : eqT h h (h 19 1) := ⟨⟨rfl, n.1, n.2⟩, hb⟩
      have hpm : ¬ p = -1 := by omega
      have t1 := (t0.step (p := p) ⟨by omega, g1.2⟩ (Or.inr (by omega))).model (hm2 := fdT p q r t H0) (fun i => by
        unfold fdT mdU
        rw [if_neg hpm, H13]
        simp only [hs_at, hz_at]
        simp
        rw [eH]
        simp only [hs_at]
        simp
        rw [ehc, hc39])
      have ex : xU p (h 19 1) = h 19 1 + 1 := by unfold xU; rw [if_neg hpm]
      have ea : apU p h = apT p h := by unfold apU; rw [if_neg hpm]
      rw [ex, ea] at t1
      have t2 := t1.step g2 (by omega)
      have t3 := t2.step g3 (by omega)
      have t4 := t3.step g4 (by omega)
      rw [← ehc] at t4
      have eM : mdU t (xU r (xU q (h 19 1 + 1))) (mdU r (xU q (h 19 1 + 1)) (mdU q (h 19 1 + 1) (fdT p q r t H0))) = fdM p q r t H0 := by unfold fdM; rw [H13]
      rw [eM] at t4
      have o19 : ∀ b, fdE p q r t H0 19 b = hc 19 b := fun b => by rw [fdE_at (by decide) (by decide) (by simp), eH]; simp [hs_at]
      have o20 : ∀ b, fdE p q r t H0 20 b = hc 20 b := fun b => by rw [fdE_at (by decide) (by decide) (by simp), eH]; simp [hs_at]
      have o13 : fdE p q r t H0 30 13 = fdN q r t (h 19 1) := by unfold fdE; rw [hz_at, if_neg (by decide), hs_at, if_pos rfl, if_pos rfl, H13]
      rw [← ehc, ← ev]
      refine ⟨_, gC_ok ek (by show zr v; rw [ev]; unfold zr fdN; omega) rfl ?_ ?_, Or.inr ⟨⟨?_, ?_, ?_⟩, ?_⟩⟩
      · rw [fdE_at (by decide) (by decide) (by simp), eH]; simp [hs_at]
      · rw [fdE_at (by decide) (by decide) (by simp), eH]; simp [hs_at]
      · rw [o19]; exact ⟨by rw [t4.1.1]; exact t4.1.2.1, by rw [t4.1.1]; exact t4.1.2.2⟩
      · rw [o13, o19, t4.1.1]; rfl
      · intro i i0 i1
        rw [o19, t4.1.1] at i1
        rw [fdE_39, o20]
        exact t4.2 i i0 i1
      · intro a b b1 b2 b3 b4 b5 b6
        have b7 : ¬ (a = 30 ∧ b = 0) := fun e => b6 ⟨e.1, Or.inl e.2⟩
        have b8 : ¬ (a = 30 ∧ b = 13) := fun e => b6 ⟨e.1, Or.inr e.2⟩
        rw [fdE_at b3 b5 b8, eH, hs_at]
        have e9 : hs hc 50 0 (wr v) a b = h a b := by
          rw [hs_at, if_neg b4, ehc, apU_at b1 b2, apU_at b1 b2, apU_at b1 b2]
          unfold apT
          rw [hs_at, if_neg b1, hs_at, if_neg b2]
        by_cases ha : a = 30
        · subst ha
          rw [if_pos rfl, if_neg (fun e => b7 ⟨rfl, e⟩), e9]
        · rw [if_neg ha, e9]
    · rw [if_neg h2] at e7 ⊢
      rw [Option.bind_some, if_neg (show ¬ (3 : Int) = 0 by decide), if_neg (show ¬ (3 : Int) = 2 by decide), if_pos rfl]
      exact ⟨_, gC_thr e7 ⟨by unfold zr; omega, by decide⟩ (by simp [hs_at]), Or.inl ((zeqv.rf.h30 _).h30 _)⟩
  · rw [if_neg h1] at e7 ⊢
    rw [Option.bind_some, if_neg (show ¬ (2 : Int) = 0 by decide), if_pos rfl]
    exact ⟨_, gC_thr e7 ⟨by unfold zr; omega, by decide⟩ (by simp [hs_at]), Or.inl ((zeqv.rf.h30 _).h30 _)⟩
end ZPURE6
