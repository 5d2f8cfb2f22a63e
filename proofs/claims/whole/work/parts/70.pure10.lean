section ZPURE10
/-- what holds of both objects when they are new -/
abbrev PsNew (h : HS) : Prop := (h 1 5 = 0 ∧ h 30 1 = 0) ∧ (∀ i : Int, h 3 i = 0 ∧ h 32 i = 0) ∧ (h 9 8 = 1 ∧ h 30 8 = 1 ∧ h 0 8 = 0 ∧ h 30 9 = 0) ∧ (∀ s : Int, 0 ≤ s → s < 64 → h 8 s = -1 ∧ h 34 s = -1 ∧ h 35 s = -1) ∧ (h 19 1 = 0 ∧ h 19 2 = 0 ∧ h 30 13 = 0) ∧ (h 21 1 = 0 ∧ h 21 2 = 0) ∧ (h 0 13 = -1 ∧ h 0 14 = -1 ∧ h 0 15 = -1 ∧ h 30 14 = -1 ∧ h 30 15 = -1 ∧ h 30 16 = -1) ∧ (h 10 0 = -1 ∧ h 11 0 = -1 ∧ h 12 0 = -1 ∧ h 13 0 = -1 ∧ h 14 0 = 0 ∧ h 15 0 = 0 ∧ h 16 0 = -1 ∧ h 17 0 = -1) ∧ (h 37 0 = -1 ∧ h 37 1 = -1 ∧ h 37 2 = -1 ∧ h 37 3 = 0 ∧ h 37 4 = 0) ∧ (h 30 0 = 0 ∧ h 0 9 = 0 ∧ h 0 10 = 0)
theorem PsNew.k {h : HS} (w : PsNew h) : h 1 5 = 0 ∧ h 30 1 = 0 := w.1
theorem PsNew.c {h : HS} (w : PsNew h) : ∀ i : Int, h 3 i = 0 ∧ h 32 i = 0 := w.2.1
theorem PsNew.n {h : HS} (w : PsNew h) : h 9 8 = 1 ∧ h 30 8 = 1 ∧ h 0 8 = 0 ∧ h 30 9 = 0 := w.2.2.1
theorem PsNew.b {h : HS} (w : PsNew h) : ∀ s : Int, 0 ≤ s → s < 64 → h 8 s = -1 ∧ h 34 s = -1 ∧ h 35 s = -1 := w.2.2.2.1
theorem PsNew.t {h : HS} (w : PsNew h) : h 19 1 = 0 ∧ h 19 2 = 0 ∧ h 30 13 = 0 := w.2.2.2.2.1
theorem PsNew.d {h : HS} (w : PsNew h) : h 21 1 = 0 ∧ h 21 2 = 0 := w.2.2.2.2.2.1
theorem PsNew.e {h : HS} (w : PsNew h) : h 0 13 = -1 ∧ h 0 14 = -1 ∧ h 0 15 = -1 ∧ h 30 14 = -1 ∧ h 30 15 = -1 ∧ h 30 16 = -1 := w.2.2.2.2.2.2.1
theorem PsNew.r {h : HS} (w : PsNew h) : h 10 0 = -1 ∧ h 11 0 = -1 ∧ h 12 0 = -1 ∧ h 13 0 = -1 ∧ h 14 0 = 0 ∧ h 15 0 = 0 ∧ h 16 0 = -1 ∧ h 17 0 = -1 := w.2.2.2.2.2.2.2.1
theorem PsNew.m {h : HS} (w : PsNew h) : h 37 0 = -1 ∧ h 37 1 = -1 ∧ h 37 2 = -1 ∧ h 37 3 = 0 ∧ h 37 4 = 0 := w.2.2.2.2.2.2.2.2.1
theorem PsNew.z {h : HS} (w : PsNew h) : h 30 0 = 0 ∧ h 0 9 = 0 ∧ h 0 10 = 0 := w.2.2.2.2.2.2.2.2.2
set_option maxRecDepth 20000 in
set_option maxHeartbeats 4000000 in
theorem pStart : ∃ h1 h2, fX5_init (hz z0 0) = some h1 ∧ fX6_init (hz h1 30) = some h2 ∧ PsNew (hz h2 50) := by
  obtain ⟨ob, b1, b2, b3, b4⟩ := pJ7_fill (v := -1) zF 0 (hz (hz (hs (hz (hz (hz (hz (hz (hz (hz z0 0) 1) 2) 3) 4) 5) 6) 1 5 0) 7) 8) (by omega) (by omega) (by unfold zF; omega)
  have e1 : fX5_init (hz z0 0) = (fX4_init (hz ob 9)).bind fun r6 => (fX2_init (hz r6 18)).bind fun r8 => (fX3_init (hz (hz (hz r8 23) 24) 19)).bind fun r12 => (fX3_init_d (hz r12 21)).bind fun r14 => some (hs (hs (hs (hs (hs (hs (hs (hs r14 0 8 0) 0 9 0) 0 10 0) 0 11 (-1)) 0 12 (-1)) 0 13 (-1)) 0 14 (-1)) 0 15 (-1)) := by
    unfold fX5_init fX1_init fX0_init fJ7_fill_53178
    rw [Option.bind_some, b1, Option.bind_some, Option.bind_some]
  have c9 : hs (hz (hz (hz (hz (hz (hz (hz (hz (hz ob 9) 10) 11) 12) 13) 14) 15) 16) 17) 9 8 0 9 8 = 0 := hs_self
  unfold fX4_init at e1
  rw [pX4_occupy (by rw [c9]; omega), Option.bind_some] at e1
  unfold fX2_init fX3_init fX3_init_d at e1
  simp only [Option.bind_some] at e1
  obtain ⟨h1, eh1⟩ : ∃ h1, fX5_init (hz z0 0) = some h1 := ⟨_, e1⟩
  have eh := eh1
  rw [e1] at eh
  have eh := Option.some.inj eh
  obtain ⟨o, d1, d2, d3, d4, d5⟩ := pX6_L128 zF 0 (hz (hz (hz (hs (hs (hs (hz (hz (hz (hs (hz (hz (hz (hz (hz (hz (hz h1 30) 31) 32) 33) 34) 35) 36) 30 8 1) 37) 38) 39) 30 14 (-1)) 30 15 (-1)) 30 16 (-1)) 40) 41) 42) (by omega) (by omega) (by unfold zF; omega) (fun s a b => by omega)
  have z00 : ∀ a b, z0 a b = 0 := fun _ _ => rfl
  have nb : ∀ a b, a ≠ 8 → a < 9 → ob a b = 0 := fun a b ha h9 => by
    rw [b4 a b ha]
    simp [hs_at, hz_at, z00]
  refine ⟨h1, o, eh1, d1, ⟨?_, ?_, ?_, ?_, ?_, ?_, ?_, ?_, ?_, ?_⟩⟩
  · rw [← eh] at d5
    constructor
    · simp only [hz_at]; rw [if_neg (by decide), d5 _ _ (by decide) (by decide) (by decide)]
      simp [hs_at, hz_at, occ, nb]
    · simp only [hz_at]; rw [if_neg (by decide), d5 _ _ (by decide) (by decide) (by decide)]
      simp [hs_at, hz_at]
  · intro i
    rw [← eh] at d5
    constructor
    · simp only [hz_at]; rw [if_neg (by decide), d5 _ _ (by decide) (by decide) (by decide)]
      simp [hs_at, hz_at, occ, nb]
    · simp only [hz_at]; rw [if_neg (by decide), d5 _ _ (by decide) (by decide) (by decide)]
      simp [hs_at, hz_at]
  · rw [← eh] at d5
    refine ⟨?_, ?_, ?_, ?_⟩ <;> (simp only [hz_at]; rw [if_neg (by decide), d5 _ _ (by decide) (by decide) (by decide)]; simp [hs_at, hz_at, occ, nb])
  · intro s s0 s1
    obtain ⟨f1, f2⟩ := d2 s s0 s1
    rw [← eh] at d5
    refine ⟨?_, ?_, ?_⟩
    · simp only [hz_at]; rw [if_neg (by decide), d5 _ _ (by decide) (by decide) (by decide)]
      simp [hs_at, hz_at, occ, b2 s s0 s1]
    · simp only [hz_at]; rw [if_neg (by decide), f1]
    · simp only [hz_at]; rw [if_neg (by decide), f2]
  · rw [← eh] at d5
    refine ⟨?_, ?_, ?_⟩ <;> (simp only [hz_at]; rw [if_neg (by decide), d5 _ _ (by decide) (by decide) (by decide)]; simp [hs_at, hz_at])
  · rw [← eh] at d5
    refine ⟨?_, ?_⟩ <;> (simp only [hz_at]; rw [if_neg (by decide), d5 _ _ (by decide) (by decide) (by decide)]; simp [hs_at, hz_at])
  · rw [← eh] at d5
    refine ⟨?_, ?_, ?_, ?_, ?_, ?_⟩ <;> (simp only [hz_at]; rw [if_neg (by decide), d5 _ _ (by decide) (by decide) (by decide)]; simp [hs_at, hz_at])
  · rw [← eh] at d5
    refine ⟨?_, ?_, ?_, ?_, ?_, ?_, ?_, ?_⟩ <;> (simp only [hz_at]; rw [if_neg (by decide), d5 _ _ (by decide) (by decide) (by decide)]; simp [hs_at, hz_at, occ])
  · refine ⟨?_, ?_, ?_, ?_, ?_⟩
    · simp only [hz_at]; rw [if_neg (by decide), d3 _ (by omega) (by omega)]
    · simp only [hz_at]; rw [if_neg (by decide), d3 _ (by omega) (by omega)]
    · simp only [hz_at]; rw [if_neg (by decide), d3 _ (by omega) (by omega)]
    · simp only [hz_at]; rw [if_neg (by decide), d4 _ (by omega)]; simp [hs_at, hz_at]
    · simp only [hz_at]; rw [if_neg (by decide), d4 _ (by omega)]; simp [hs_at, hz_at]
  · rw [← eh] at d5
    refine ⟨?_, ?_, ?_⟩ <;> (simp only [hz_at]; rw [if_neg (by decide), d5 _ _ (by decide) (by decide) (by decide)]; simp [hs_at, hz_at])
end ZPURE10
