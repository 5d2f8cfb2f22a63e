section ZKEEP
theorem bd_eq {o h : HS} (e10 : o 10 = h 10) (e11 : o 11 = h 11) (e12 : o 12 = h 12) (e14 : o 14 = h 14) (e34 : o 34 = h 34) : bd o = bd h := by
  funext p
  unfold bd
  rw [e10, e11, e12, e14, e34]
theorem PsP.cg {o h : HS} (w : PsP h) (e0 : o 0 8 = h 0 8) (e30 : o 30 9 = h 30 9) (e9 : o 9 = h 9) (e10 : o 10 = h 10) (e11 : o 11 = h 11) (e12 : o 12 = h 12) (e13 : o 13 = h 13) (e14 : o 14 = h 14) (e34 : o 34 = h 34) (e8 : o 8 = h 8) (e35 : o 35 = h 35) (e1 : h 1 5 ≤ o 1 5) : PsP o := by
  have eb := bd_eq e10 e11 e12 e14 e34
  refine ⟨by rw [e0, e30, e9]; exact w.n, by rw [e10, e11, e12, e14]; exact w.z, by rw [eb, e9, e10, e11, e12, e13, e14]; exact w.t, by rw [eb, e0, e8, e35]; exact w.b, fun s s0 s1 => ?_⟩
  have k := w.f s s0 s1
  rw [e34]
  omega
theorem PsA.cg {o h : HS} (w : PsA h) (e9 : o 9 = h 9) (e10 : o 10 = h 10) (e15 : o 15 = h 15) (e16 : o 16 = h 16) (e17 : o 17 = h 17) : PsA o := fun p p0 p1 => by
  rw [e9] at p1
  obtain ⟨a1, j, a2, a3⟩ := w p p0 p1
  rw [e10, e15]
  exact ⟨a1, j, a2, by rw [kid_cg (fun i => by rw [e16]) (fun i => by rw [e17])]; exact a3⟩
theorem nKind_psi {p : Int} {h : HS} (w : Psi h) (h6 : h 1 5 < 6) (hp : 65 ≤ p ∧ p ≤ 90) : Psi (nKind p h) := by
  have ne : ∀ a : Nat, a ≠ 1 → a ≠ 2 → a ≠ 30 → a ≠ 31 → nKind p h a = h a := fun a h1 h2 h3 h4 => by
    unfold nKind
    rw [hs_ne _ _ _ h3, hs_ne _ _ _ h4, hs_ne _ _ _ h1, hs_ne _ _ _ h2]
  have e15 : nKind p h 1 5 = h 1 5 + 1 := by unfold nKind; simp [hs_at]
  have e30 : ∀ b, b ≠ 1 → nKind p h 30 b = h 30 b := fun b hb => by unfold nKind; simp [hs_at, hb]
  have e301 : nKind p h 30 1 = h 1 5 + 1 := by unfold nKind; simp [hs_at]
  have e2 : ∀ i, nKind p h 2 i = if i = h 1 5 then p else h 2 i := fun i => by unfold nKind; simp [hs_at]
  have e31 : ∀ i, nKind p h 31 i = if i = h 1 5 then p else h 31 i := fun i => by unfold nKind; simp [hs_at]
  have n0 := w.B.nk
  refine ⟨w.T.cg (by rw [ne 19 (by decide) (by decide) (by decide) (by decide)]) (e30 _ (by decide)) (fun i => by rw [ne 39 (by decide) (by decide) (by decide) (by decide)]) (fun i => by rw [ne 20 (by decide) (by decide) (by decide) (by decide)]),
   w.E.cg (fun b b0 b1 => by rw [ne 0 (by decide) (by decide) (by decide) (by decide)]) (fun b b0 b1 => e30 _ (by omega)),
   ⟨by omega, by rw [e15, e301], fun s s0 s1 => ?_⟩, ⟨by omega, by rw [e15, e301], fun i i0 i1 => ?_⟩,
   w.S.cg (fun i => by rw [ne 32 (by decide) (by decide) (by decide) (by decide)]) (fun i => by rw [ne 3 (by decide) (by decide) (by decide) (by decide)]) (fun i => by rw [ne 33 (by decide) (by decide) (by decide) (by decide)]) (fun i => by rw [ne 4 (by decide) (by decide) (by decide) (by decide)]) (fun i => by rw [ne 5 (by decide) (by decide) (by decide) (by decide)]) (fun i => by rw [ne 6 (by decide) (by decide) (by decide) (by decide)]),
   w.R.cg (by rw [ne 9 (by decide) (by decide) (by decide) (by decide)]) (e30 _ (by decide)) (fun i => by rw [ne 37 (by decide) (by decide) (by decide) (by decide)]) (fun i => by rw [ne 10 (by decide) (by decide) (by decide) (by decide), ne 11 (by decide) (by decide) (by decide) (by decide), ne 12 (by decide) (by decide) (by decide) (by decide), ne 14 (by decide) (by decide) (by decide) (by decide), ne 15 (by decide) (by decide) (by decide) (by decide)]; exact ⟨rfl, rfl, rfl, rfl, rfl⟩),
   w.C.cg (by rw [ne 9 (by decide) (by decide) (by decide) (by decide)]) (fun i => by rw [ne 16 (by decide) (by decide) (by decide) (by decide)]) (fun i => by rw [ne 17 (by decide) (by decide) (by decide) (by decide)]) (fun i => by rw [ne 38 (by decide) (by decide) (by decide) (by decide)]) (fun i => by rw [ne 10 (by decide) (by decide) (by decide) (by decide)]) (fun i => by rw [ne 15 (by decide) (by decide) (by decide) (by decide)]),
   w.A.cg (ne 9 (by decide) (by decide) (by decide) (by decide)) (ne 10 (by decide) (by decide) (by decide) (by decide)) (ne 15 (by decide) (by decide) (by decide) (by decide)) (ne 16 (by decide) (by decide) (by decide) (by decide)) (ne 17 (by decide) (by decide) (by decide) (by decide)),
   w.P.cg (by rw [ne 0 (by decide) (by decide) (by decide) (by decide)]) (e30 _ (by decide)) (ne 9 (by decide) (by decide) (by decide) (by decide)) (ne 10 (by decide) (by decide) (by decide) (by decide)) (ne 11 (by decide) (by decide) (by decide) (by decide)) (ne 12 (by decide) (by decide) (by decide) (by decide)) (ne 13 (by decide) (by decide) (by decide) (by decide)) (ne 14 (by decide) (by decide) (by decide) (by decide)) (ne 34 (by decide) (by decide) (by decide) (by decide)) (ne 8 (by decide) (by decide) (by decide) (by decide)) (ne 35 (by decide) (by decide) (by decide) (by decide)) (by omega)⟩
  · obtain ⟨k1, k2, k3⟩ := w.B.sq s s0 s1
    rw [ne 35 (by decide) (by decide) (by decide) (by decide), ne 8 (by decide) (by decide) (by decide) (by decide), e15]
    omega
  · rw [e2, e31]
    by_cases hi : i = h 1 5
    · rw [if_pos hi, if_pos hi]; exact ⟨rfl, hp⟩
    · rw [if_neg hi, if_neg hi]; exact w.K.le i i0 (by omega)
theorem qc_0 {p : Int} {h : HS} (hp : zr p) (w : Psi h) : ∃ o, fL_c0 p h = some o ∧ Psi o := by
  obtain ⟨o, e, k | ⟨k1, k2, k3, k4⟩⟩ := pc_0 hp w.K w.N
  · exact ⟨o, e, w.sq k.sq⟩
  · exact ⟨o, e, (nKind_psi w k1 ⟨k2, k3⟩).sq k4.sq⟩
theorem nStep_psi {p x y r : Int} {h : HS} (w : Psi h) (hp : 0 ≤ p ∧ p < h 1 5) (hs1 : sStep x y ∧ 1 ≤ r ∧ r ≤ 7) (h8 : h 3 p < 8) : Psi (nStep6 p x y r (nStep p x y r h)) := by
  obtain ⟨o, eo⟩ : ∃ o, o = nStep6 p x y r (nStep p x y r h) := ⟨_, rfl⟩
  rw [← eo]
  have ne : ∀ a : Nat, ¬ (a = 3 ∨ a = 4 ∨ a = 5 ∨ a = 6 ∨ a = 32 ∨ a = 33) → o a = h a := fun a hn => by
    rw [eo]
    unfold nStep6 nStep
    rw [hs_ne _ _ _ (by omega), hs_ne _ _ _ (by omega), hs_ne _ _ _ (by omega), hs_ne _ _ _ (by omega), hs_ne _ _ _ (by omega), hs_ne _ _ _ (by omega), hs_ne _ _ _ (by omega), hs_ne _ _ _ (by omega)]
  obtain ⟨c1, c2, c3⟩ := w.S.c p hp.1 (by have := w.B.nk; omega)
  have e3 : ∀ i, o 3 i = if i = p then h 3 p + 1 else h 3 i := fun i => by rw [eo]; unfold nStep6 nStep; simp [hs_at]
  have e32 : ∀ i, o 32 i = if i = p then h 32 p + 1 else h 32 i := fun i => by rw [eo]; unfold nStep6 nStep; simp [hs_at]
  have e4 : ∀ i, o 4 i = if i = p * 8 + h 3 p then x else h 4 i := fun i => by rw [eo]; unfold nStep6 nStep; simp [hs_at]
  have e5 : ∀ i, o 5 i = if i = p * 8 + h 3 p then y else h 5 i := fun i => by rw [eo]; unfold nStep6 nStep; simp [hs_at]
  have e6 : ∀ i, o 6 i = if i = p * 8 + h 3 p then r else h 6 i := fun i => by rw [eo]; unfold nStep6 nStep; simp [hs_at]
  have e33 : ∀ i, o 33 i = if i = 3 * (8 * p + h 3 p) + 2 then r else if i = 3 * (8 * p + h 3 p) + 1 then y else if i = 3 * (8 * p + h 3 p) then x else h 33 i := fun i => by rw [eo]; unfold nStep6 nStep; simp [hs_at, c1]
  have n0 := w.B.nk
  refine ⟨w.T.cg (by rw [ne 19 (by decide)]) (by rw [ne 30 (by decide)]) (fun i => by rw [ne 39 (by decide)]) (fun i => by rw [ne 20 (by decide)]),
   w.E.cg (fun b b0 b1 => by rw [ne 0 (by decide)]) (fun b b0 b1 => by rw [ne 30 (by decide)]),
   w.B.cg (by rw [ne 1 (by decide)]) (by rw [ne 30 (by decide)]) (fun i => by rw [ne 35 (by decide)]) (fun i => by rw [ne 8 (by decide)]),
   w.K.cg (by rw [ne 1 (by decide)]) (by rw [ne 30 (by decide)]) (fun i => by rw [ne 31 (by decide)]) (fun i => by rw [ne 2 (by decide)]),
   ⟨fun i i0 i1 => ?_, fun i j i0 i1 j0 j1 => ?_⟩,
   w.R.cg (by rw [ne 9 (by decide)]) (by rw [ne 30 (by decide)]) (fun i => by rw [ne 37 (by decide)]) (fun i => by rw [ne 10 (by decide), ne 11 (by decide), ne 12 (by decide), ne 14 (by decide), ne 15 (by decide)]; exact ⟨rfl, rfl, rfl, rfl, rfl⟩),
   w.C.cg (by rw [ne 9 (by decide)]) (fun i => by rw [ne 16 (by decide)]) (fun i => by rw [ne 17 (by decide)]) (fun i => by rw [ne 38 (by decide)]) (fun i => by rw [ne 10 (by decide)]) (fun i => by rw [ne 15 (by decide)]),
   w.A.cg (ne 9 (by decide)) (ne 10 (by decide)) (ne 15 (by decide)) (ne 16 (by decide)) (ne 17 (by decide)),
   w.P.cg (by rw [ne 0 (by decide)]) (by rw [ne 30 (by decide)]) (ne 9 (by decide)) (ne 10 (by decide)) (ne 11 (by decide)) (ne 12 (by decide)) (ne 13 (by decide)) (ne 14 (by decide)) (ne 34 (by decide)) (ne 8 (by decide)) (ne 35 (by decide)) (by rw [ne 1 (by decide)]; omega)⟩
  · obtain ⟨k1, k2, k3⟩ := w.S.c i i0 i1
    rw [e3, e32]
    by_cases hi : i = p
    · rw [if_pos hi, if_pos hi]; omega
    · rw [if_neg hi, if_neg hi]; omega
  · obtain ⟨k1, k2, k3⟩ := w.S.c i i0 i1
    obtain ⟨⟨s1, s2⟩, ⟨s3, s4⟩, s5⟩ := hs1.1
    rw [e3] at j1
    by_cases hi : i = p ∧ j = h 3 p
    · obtain ⟨rfl, rfl⟩ := hi
      have a0 : o 33 (3 * (8 * i + h 3 i)) = x := by rw [e33, if_neg (by omega), if_neg (by omega), if_pos rfl]
      have a1 : o 33 (3 * (8 * i + h 3 i) + 1) = y := by rw [e33, if_neg (by omega), if_pos rfl]
      have a2 : o 33 (3 * (8 * i + h 3 i) + 2) = r := by rw [e33, if_pos rfl]
      rw [a0, a1, a2, e4, e5, e6, if_pos rfl, if_pos rfl, if_pos rfl]
      exact ⟨rfl, rfl, rfl, ⟨s1, s2⟩, ⟨s3, s4⟩, s5, hs1.2⟩
    · have j2 : j < h 3 i := by
        by_cases hi2 : i = p
        · rw [if_pos hi2] at j1
          have : ¬ j = h 3 p := fun e => hi ⟨hi2, e⟩
          rw [hi2]; omega
        · rw [if_neg hi2] at j1; exact j1
      have d1 : ¬ i * 8 + j = p * 8 + h 3 p := by omega
      have a0 : o 33 (3 * (8 * i + j)) = h 33 (3 * (8 * i + j)) := by rw [e33, if_neg (by omega), if_neg (by omega), if_neg (by omega)]
      have a1 : o 33 (3 * (8 * i + j) + 1) = h 33 (3 * (8 * i + j) + 1) := by rw [e33, if_neg (by omega), if_neg (by omega), if_neg (by omega)]
      have a2 : o 33 (3 * (8 * i + j) + 2) = h 33 (3 * (8 * i + j) + 2) := by rw [e33, if_neg (by omega), if_neg (by omega), if_neg (by omega)]
      rw [a0, a1, a2, e4, e5, e6, if_neg d1, if_neg d1, if_neg d1]
      exact w.S.s i j i0 i1 j0 j2
theorem qc_1 {p x y r : Int} {h : HS} (hp : zr p) (hx : zr x) (hy : zr y) (hr : zr r) (w : Psi h) : ∃ o, fL_c1 p x y r h = some o ∧ Psi o := by
  obtain ⟨o, e, k | ⟨k1, k2, k3, k4⟩⟩ := pc_1 hp hx hy hr w.B.nk w.B.nk2 w.S w.N
  · exact ⟨o, e, w.sq k.sq⟩
  · exact ⟨o, e, (nStep_psi w k1 k2 k3).sq k4.sq⟩
theorem nPut_psi {p v : Int} {h : HS} (w : Psi h) (hp : 0 ≤ p ∧ p < 64) (hv : -1 ≤ v ∧ v < 2 * h 1 5) (h1 : h 9 8 ≤ 1) : Psi (nPut p v h) := by
  obtain ⟨o, eo⟩ : ∃ o, o = nPut p v h := ⟨_, rfl⟩
  rw [← eo]
  have ne : ∀ a : Nat, ¬ (a = 8 ∨ a = 34 ∨ a = 35) → o a = h a := fun a hn => by
    rw [eo]
    unfold nPut
    rw [hs_ne _ _ _ (by omega), hs_ne _ _ _ (by omega), hs_ne _ _ _ (by omega)]
  have e8 : ∀ i, o 8 i = if i = p then v else h 8 i := fun i => by rw [eo]; unfold nPut; simp [hs_at]
  have e34 : ∀ i, o 34 i = if i = p then v else h 34 i := fun i => by rw [eo]; unfold nPut; simp [hs_at]
  have e35 : ∀ i, o 35 i = if i = p then v else h 35 i := fun i => by rw [eo]; unfold nPut; simp [hs_at]
  have n0 := w.P.n
  have z0 := w.P.z
  have n1 := w.R.n
  refine ⟨w.T.cg (by rw [ne 19 (by decide)]) (by rw [ne 30 (by decide)]) (fun i => by rw [ne 39 (by decide)]) (fun i => by rw [ne 20 (by decide)]),
   w.E.cg (fun b b0 b1 => by rw [ne 0 (by decide)]) (fun b b0 b1 => by rw [ne 30 (by decide)]),
   ⟨by rw [ne 1 (by decide)]; exact w.B.nk, by rw [ne 1 (by decide), ne 30 (by decide)]; exact w.B.nk2, fun s s0 s1 => ?_⟩,
   w.K.cg (by rw [ne 1 (by decide)]) (by rw [ne 30 (by decide)]) (fun i => by rw [ne 31 (by decide)]) (fun i => by rw [ne 2 (by decide)]),
   w.S.cg (fun i => by rw [ne 32 (by decide)]) (fun i => by rw [ne 3 (by decide)]) (fun i => by rw [ne 33 (by decide)]) (fun i => by rw [ne 4 (by decide)]) (fun i => by rw [ne 5 (by decide)]) (fun i => by rw [ne 6 (by decide)]),
   w.R.cg (by rw [ne 9 (by decide)]) (by rw [ne 30 (by decide)]) (fun i => by rw [ne 37 (by decide)]) (fun i => by rw [ne 10 (by decide), ne 11 (by decide), ne 12 (by decide), ne 14 (by decide), ne 15 (by decide)]; exact ⟨rfl, rfl, rfl, rfl, rfl⟩),
   w.C.cg (by rw [ne 9 (by decide)]) (fun i => by rw [ne 16 (by decide)]) (fun i => by rw [ne 17 (by decide)]) (fun i => by rw [ne 38 (by decide)]) (fun i => by rw [ne 10 (by decide)]) (fun i => by rw [ne 15 (by decide)]),
   w.A.cg (ne 9 (by decide)) (ne 10 (by decide)) (ne 15 (by decide)) (ne 16 (by decide)) (ne 17 (by decide)),
   ⟨by rw [ne 0 (by decide), ne 30 (by decide), ne 9 (by decide)]; exact n0, by rw [ne 10 (by decide), ne 11 (by decide), ne 12 (by decide), ne 14 (by decide)]; exact z0, fun q q0 q1 => by rw [ne 9 (by decide)] at q1; omega, fun s s0 s1 => ?_, fun s s0 s1 => ?_⟩⟩
  · obtain ⟨k1, k2, k3⟩ := w.B.sq s s0 s1
    rw [e35, e8, ne 1 (by decide)]
    by_cases hs1 : s = p
    · rw [if_pos hs1, if_pos hs1]; exact ⟨rfl, hv⟩
    · rw [if_neg hs1, if_neg hs1]; exact ⟨k1, k2, k3⟩
  · obtain ⟨k1, k2⟩ := w.P.b s s0 s1
    have ep : h 0 8 = 0 := by omega
    rw [ep, bd_0 z0.2.2.2] at k1 k2
    rw [ne 0 (by decide), ep, bd_0 (by rw [ne 14 (by decide)]; exact z0.2.2.2), e8, e35, e34, k1, k2]
    exact ⟨rfl, rfl⟩
  · have k := w.P.f s s0 s1
    rw [e34, ne 1 (by decide)]
    by_cases hs1 : s = p
    · rw [if_pos hs1]; exact hv
    · rw [if_neg hs1]; exact k
theorem qc_2 {p x y : Int} {h : HS} (hp : zr p) (hx : zr x) (hy : zr y) (w : Psi h) : ∃ o, fL_c2 p x y h = some o ∧ Psi o := by
  have n0 := w.P.n
  have n1 := w.R.n
  obtain ⟨o, e, k | ⟨k1, k2, k3, k4, k5⟩⟩ := pc_2 hp hx hy w.B w.N (fun h1 s s0 s1 => by
    have ep : h 0 8 = 0 := by omega
    obtain ⟨b1, b2⟩ := w.P.b s s0 s1
    rw [ep, bd_0 w.P.z.2.2.2] at b1
    exact b1.symm)
  · exact ⟨o, e, w.sq k.sq⟩
  · refine ⟨o, e, (nPut_psi w k1 ?_ k4).sq k5.sq⟩
    have nk := w.B.nk
    unfold pVal
    by_cases hx1 : x = -1
    · rw [if_pos hx1]; omega
    · rw [if_neg hx1]; omega
theorem qc_3 {p : Int} {h : HS} (hp : zr p) (w : Psi h) : ∃ o, fL_c3 p h = some o ∧ Psi o := by
  obtain ⟨o, e, k⟩ := pc_3 hp w.B
  exact ⟨o, e, w.sq k.sq⟩
/-- another tape alone -/
theorem Psi.tape {o h : HS} (w : Psi h) (t : PsT o) (ne : ∀ a : Nat, ¬ (a = 19 ∨ a = 20 ∨ a = 39 ∨ a = 30) → o a = h a) (e30 : ∀ b : Int, b ≠ 13 → o 30 b = h 30 b) : Psi o :=
  ⟨t, w.E.cg (fun b b0 b1 => by rw [ne 0 (by decide)]) (fun b b0 b1 => e30 _ (by omega)),
   w.B.cg (by rw [ne 1 (by decide)]) (e30 _ (by decide)) (fun i => by rw [ne 35 (by decide)]) (fun i => by rw [ne 8 (by decide)]),
   w.K.cg (by rw [ne 1 (by decide)]) (e30 _ (by decide)) (fun i => by rw [ne 31 (by decide)]) (fun i => by rw [ne 2 (by decide)]),
   w.S.cg (fun i => by rw [ne 32 (by decide)]) (fun i => by rw [ne 3 (by decide)]) (fun i => by rw [ne 33 (by decide)]) (fun i => by rw [ne 4 (by decide)]) (fun i => by rw [ne 5 (by decide)]) (fun i => by rw [ne 6 (by decide)]),
   w.R.cg (by rw [ne 9 (by decide)]) (e30 _ (by decide)) (fun i => by rw [ne 37 (by decide)]) (fun i => by rw [ne 10 (by decide), ne 11 (by decide), ne 12 (by decide), ne 14 (by decide), ne 15 (by decide)]; exact ⟨rfl, rfl, rfl, rfl, rfl⟩),
   w.C.cg (by rw [ne 9 (by decide)]) (fun i => by rw [ne 16 (by decide)]) (fun i => by rw [ne 17 (by decide)]) (fun i => by rw [ne 38 (by decide)]) (fun i => by rw [ne 10 (by decide)]) (fun i => by rw [ne 15 (by decide)]),
   w.A.cg (ne 9 (by decide)) (ne 10 (by decide)) (ne 15 (by decide)) (ne 16 (by decide)) (ne 17 (by decide)),
   w.P.cg (by rw [ne 0 (by decide)]) (e30 _ (by decide)) (ne 9 (by decide)) (ne 10 (by decide)) (ne 11 (by decide)) (ne 12 (by decide)) (ne 13 (by decide)) (ne 14 (by decide)) (ne 34 (by decide)) (ne 8 (by decide)) (ne 35 (by decide)) (by rw [ne 1 (by decide)]; omega)⟩
theorem qc_7 {p q r t : Int} {h : HS} (hp : zr p) (hq : zr q) (hr : zr r) (ht : zr t) (w : Psi h) : ∃ o, fL_c7 p q r t h = some o ∧ Psi o := by
  obtain ⟨o, e, k | ⟨k1, k2⟩⟩ := pc_7 hp hq hr ht w.T
  · exact ⟨o, e, w.sq k.sq⟩
  · refine ⟨o, e, ?_⟩
    have sq : zsq o (fun a => if a = 19 ∨ a = 20 ∨ a = 39 then o a else if a = 30 then (fun b => if b = 13 then o 30 13 else h 30 b) else h a) := fun a b hn => by
      show o a b = (if a = 19 ∨ a = 20 ∨ a = 39 then o a else if a = 30 then (fun b => if b = 13 then o 30 13 else h 30 b) else h a) b
      by_cases h1 : a = 19 ∨ a = 20 ∨ a = 39
      · rw [if_pos h1]
      · rw [if_neg h1]
        by_cases h2 : a = 30
        · subst h2
          rw [if_pos rfl]
          by_cases h3 : b = 13
          · subst h3
            rw [if_pos rfl]
          · show o 30 b = if b = 13 then o 30 13 else h 30 b
            rw [if_neg h3]
            exact k2 30 b (by decide) (by decide) (by decide) (by decide) (by decide) (by rintro ⟨-, e | e⟩ <;> omega)
        · rw [if_neg h2]
          exact k2 a b (by omega) (by omega) (by omega) (by omega) (by omega) (by omega)
    refine Psi.sq ?_ sq
    refine w.tape (k1.cg rfl rfl (fun _ => rfl) (fun _ => rfl)) (fun a hn => ?_) (fun b hb => ?_)
    · show (if _ then _ else _) = _
      rw [if_neg (by omega), if_neg (by omega)]
    · show (if b = 13 then _ else _) = _
      rw [if_neg hb]
theorem qc_8 {h : HS} (w : Psi h) : ∃ o, fL_c8 h = some o ∧ Psi o := by
  obtain ⟨o, e, k⟩ := pc_8 w.T
  refine ⟨o, e, Psi.sq ?_ k.sq⟩
  refine w.tape ⟨?_, ?_, ?_⟩ (fun a hn => ?_) (fun b hb => ?_)
  · simp [hs_at]
  · simp [hs_at]
  · intro i i0 i1
    simp [hs_at] at i1
    omega
  · rw [hs_ne _ _ _ (by omega), hs_ne _ _ _ (by omega), hs_ne _ _ _ (by omega)]
  · simp [hs_at, hb]
theorem qc_10 {p : Int} {h : HS} (hp : zr p) (w : Psi h) : ∃ o, fL_c10 p h = some o ∧ Psi o := by
  obtain ⟨o, e, k⟩ := pc_10 hp w.E
  exact ⟨o, e, w.sq k.sq⟩
theorem qc_12 {p : Int} {h : HS} (hp : zr p) (w : Psi h) : ∃ o, fL_c12 p h = some o ∧ Psi o := by
  obtain ⟨o, e, k⟩ := pc_12 hp w.T
  exact ⟨o, e, w.sq k.sq⟩
theorem qc_13 {p x : Int} {h : HS} (hp : zr p) (hx : zr x) (w : Psi h) : ∃ o, fL_c13 p x h = some o ∧ Psi o := by
  obtain ⟨o, e, k⟩ := pc_13 hp hx w.R
  exact ⟨o, e, w.sq k.sq⟩
theorem qc_14 {p x : Int} {h : HS} (hp : zr p) (hx : zr x) (w : Psi h) : ∃ o, fL_c14 p x h = some o ∧ Psi o := by
  obtain ⟨o, e, k⟩ := pc_14 hp hx w.R w.C
  exact ⟨o, e, w.sq k.sq⟩
end ZKEEP
