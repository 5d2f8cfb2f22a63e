section ZPURE11
theorem PsNew.T {h : HS} (w : PsNew h) : PsT h := ⟨by have := w.t.1; omega, by rw [w.t.1, w.t.2.2], fun i i0 i1 => by have := w.t.1; omega⟩
theorem PsNew.E {h : HS} (w : PsNew h) : PsE h := by
  obtain ⟨e1, e2, e3, e4, e5, e6⟩ := w.e
  exact ⟨by omega, by omega, by omega⟩
theorem PsNew.B {h : HS} (w : PsNew h) : PsB h := ⟨by have := w.k.1; omega, by rw [w.k.1, w.k.2], fun s s0 s1 => by
  obtain ⟨b1, b2, b3⟩ := w.b s s0 s1
  have := w.k.1
  omega⟩
theorem PsNew.K {h : HS} (w : PsNew h) : PsK h := ⟨by have := w.k.1; omega, by rw [w.k.1, w.k.2], fun i i0 i1 => by have := w.k.1; omega⟩
theorem PsNew.S {h : HS} (w : PsNew h) : PsS h := ⟨fun i i0 i1 => by obtain ⟨c1, c2⟩ := w.c i; omega, fun i j i0 i1 j0 j1 => by obtain ⟨c1, c2⟩ := w.c i; omega⟩
theorem PsNew.N {h : HS} (w : PsNew h) : PsN0 h := ⟨by have := w.n.1; omega, by rw [w.n.1, w.n.2.1]⟩
theorem PsNew.R {h : HS} (w : PsNew h) : PsR h := by
  obtain ⟨n1, n2, n3, n4⟩ := w.n
  obtain ⟨r1, r2, r3, r4, r5, r6, r7, r8⟩ := w.r
  obtain ⟨m1, m2, m3, m4, m5⟩ := w.m
  refine ⟨by omega, by rw [n1, n2], fun i i0 i1 => ?_, fun i i0 i1 => ?_⟩
  · obtain rfl : i = 0 := by omega
    rw [Int.mul_zero, Int.zero_add, Int.zero_add, Int.zero_add, Int.zero_add]
    omega
  · obtain rfl : i = 0 := by omega
    omega
theorem PsNew.C {h : HS} (w : PsNew h) : PsC h := by
  obtain ⟨n1, n2, n3, n4⟩ := w.n
  obtain ⟨r1, r2, r3, r4, r5, r6, r7, r8⟩ := w.r
  refine ⟨fun i i0 i1 j hj => ?_, fun i i0 i1 j j2 hj hj2 _ => ?_⟩
  · obtain rfl : i = 0 := by omega
    omega
  · obtain rfl : i = 0 := by omega
    omega
/-! each piece looks at some places alone -/
theorem PsT.cg {o h : HS} (w : PsT h) (e1 : o 19 1 = h 19 1) (e2 : o 30 13 = h 30 13) (e3 : ∀ i, o 39 i = h 39 i) (e4 : ∀ i, o 20 i = h 20 i) : PsT o :=
  ⟨by rw [e1]; exact w.n, by rw [e1, e2]; exact w.n2, fun i i0 i1 => by rw [e1] at i1; rw [e3, e4]; exact w.by_ i i0 i1⟩
theorem PsE.cg {o h : HS} (w : PsE h) (e1 : ∀ b, 13 ≤ b → b ≤ 15 → o 0 b = h 0 b) (e2 : ∀ b, 14 ≤ b → b ≤ 16 → o 30 b = h 30 b) : PsE o :=
  ⟨by rw [e1 _ (by omega) (by omega), e2 _ (by omega) (by omega)]; exact w.e1, by rw [e1 _ (by omega) (by omega), e2 _ (by omega) (by omega)]; exact w.e2, by rw [e1 _ (by omega) (by omega), e2 _ (by omega) (by omega)]; exact w.e3⟩
theorem PsB.cg {o h : HS} (w : PsB h) (e1 : o 1 5 = h 1 5) (e2 : o 30 1 = h 30 1) (e3 : ∀ i, o 35 i = h 35 i) (e4 : ∀ i, o 8 i = h 8 i) : PsB o :=
  ⟨by rw [e1]; exact w.nk, by rw [e1, e2]; exact w.nk2, fun s s0 s1 => by rw [e1, e3, e4]; exact w.sq s s0 s1⟩
theorem PsK.cg {o h : HS} (w : PsK h) (e1 : o 1 5 = h 1 5) (e2 : o 30 1 = h 30 1) (e3 : ∀ i, o 31 i = h 31 i) (e4 : ∀ i, o 2 i = h 2 i) : PsK o :=
  ⟨by rw [e1]; exact w.n, by rw [e1, e2]; exact w.n2, fun i i0 i1 => by rw [e1] at i1; rw [e3, e4]; exact w.le i i0 i1⟩
theorem PsS.cg {o h : HS} (w : PsS h) (e1 : ∀ i, o 32 i = h 32 i) (e2 : ∀ i, o 3 i = h 3 i) (e3 : ∀ i, o 33 i = h 33 i) (e4 : ∀ i, o 4 i = h 4 i) (e5 : ∀ i, o 5 i = h 5 i) (e6 : ∀ i, o 6 i = h 6 i) : PsS o :=
  ⟨fun i i0 i1 => by rw [e1, e2]; exact w.c i i0 i1, fun i j i0 i1 j0 j1 => by rw [e2] at j1; rw [e3, e3, e3, e4, e5, e6]; exact w.s i j i0 i1 j0 j1⟩
theorem PsR.cg {o h : HS} (w : PsR h) (e1 : o 9 8 = h 9 8) (e2 : o 30 8 = h 30 8) (e3 : ∀ i, o 37 i = h 37 i) (e4 : ∀ i, o 10 i = h 10 i ∧ o 11 i = h 11 i ∧ o 12 i = h 12 i ∧ o 14 i = h 14 i ∧ o 15 i = h 15 i) : PsR o :=
  ⟨by rw [e1]; exact w.n, by rw [e1, e2]; exact w.n2, fun i i0 i1 => by
    rw [e1] at i1
    obtain ⟨a, b, c, d, e⟩ := e4 i
    rw [e3, e3, e3, e3, e3, a, b, c, d, e]
    exact w.f i i0 i1, fun i i0 i1 => by
    rw [e1] at i1
    obtain ⟨a, b, c, d, e⟩ := e4 i
    rw [a, b, c, d, e]
    exact w.g i i0 i1⟩
theorem kid_cg {o h : HS} (e1 : ∀ i, o 16 i = h 16 i) (e2 : ∀ i, o 17 i = h 17 i) (i : Int) : ∀ j : Nat, kid o i j = kid h i j
  | 0 => e1 i
  | j + 1 => by
    show o 17 (kid o i j) = h 17 (kid h i j)
    rw [kid_cg e1 e2 i j, e2]
theorem PsC.cg {o h : HS} (w : PsC h) (e0 : o 9 8 = h 9 8) (e1 : ∀ i, o 16 i = h 16 i) (e2 : ∀ i, o 17 i = h 17 i) (e3 : ∀ i, o 38 i = h 38 i) (e4 : ∀ i, o 10 i = h 10 i) (e5 : ∀ i, o 15 i = h 15 i) : PsC o :=
  ⟨fun i i0 i1 j hj => by
    rw [e0] at i1
    rw [e5] at hj
    rw [kid_cg e1 e2, e0, e3, e4]
    exact w.c i i0 i1 j hj, fun i i0 i1 j j2 hj hj2 hk => by
    rw [e0] at i1
    rw [e5] at hj hj2
    rw [kid_cg e1 e2, kid_cg e1 e2] at hk
    exact w.d i i0 i1 j j2 hj hj2 hk⟩
end ZPURE11
