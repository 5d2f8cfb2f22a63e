section ZPSI
/-! positions: the board of a node -/
def bdn (ab fr to b0 : Int → Int) : Nat → Int → Int → Int
  | 0, _ => b0
  | d + 1, p => mv (bdn ab fr to b0 d (ab p)) (fr p) (to p)
def bd (h : HS) (p : Int) : Int → Int := bdn (h 10) (h 11) (h 12) (h 34) (h 14 p).toNat p
abbrev PsP (h : HS) : Prop := ((0 ≤ h 0 8 ∧ h 0 8 < h 9 8) ∧ h 30 9 = h 0 8) ∧ (h 10 0 = -1 ∧ h 11 0 = -1 ∧ h 12 0 = -1 ∧ h 14 0 = 0) ∧ (∀ p : Int, 1 ≤ p → p < h 9 8 → (0 ≤ h 10 p ∧ h 10 p < p) ∧ h 14 p = h 14 (h 10 p) + 1 ∧ (0 ≤ h 11 p ∧ h 11 p < 64) ∧ (0 ≤ h 12 p ∧ h 12 p < 64) ∧ 0 ≤ bd h (h 10 p) (h 11 p) ∧ h 13 p = bd h (h 10 p) (h 12 p)) ∧ (∀ s : Int, 0 ≤ s → s < 64 → h 8 s = bd h (h 0 8) s ∧ h 35 s = bd h (h 0 8) s) ∧ (∀ s : Int, 0 ≤ s → s < 64 → -1 ≤ h 34 s ∧ h 34 s < 2 * h 1 5)
theorem PsP.n {h : HS} (w : PsP h) : (0 ≤ h 0 8 ∧ h 0 8 < h 9 8) ∧ h 30 9 = h 0 8 := w.1
theorem PsP.z {h : HS} (w : PsP h) : h 10 0 = -1 ∧ h 11 0 = -1 ∧ h 12 0 = -1 ∧ h 14 0 = 0 := w.2.1
theorem PsP.t {h : HS} (w : PsP h) : ∀ p : Int, 1 ≤ p → p < h 9 8 → (0 ≤ h 10 p ∧ h 10 p < p) ∧ h 14 p = h 14 (h 10 p) + 1 ∧ (0 ≤ h 11 p ∧ h 11 p < 64) ∧ (0 ≤ h 12 p ∧ h 12 p < 64) ∧ 0 ≤ bd h (h 10 p) (h 11 p) ∧ h 13 p = bd h (h 10 p) (h 12 p) := w.2.2.1
theorem PsP.b {h : HS} (w : PsP h) : ∀ s : Int, 0 ≤ s → s < 64 → h 8 s = bd h (h 0 8) s ∧ h 35 s = bd h (h 0 8) s := w.2.2.2.1
theorem PsP.f {h : HS} (w : PsP h) : ∀ s : Int, 0 ≤ s → s < 64 → -1 ≤ h 34 s ∧ h 34 s < 2 * h 1 5 := w.2.2.2.2
theorem bd_0 {h : HS} (e : h 14 0 = 0) : bd h 0 = h 34 := by
  unfold bd
  rw [e]
  rfl
theorem bd_s {h : HS} {p : Int} (e : h 14 p = h 14 (h 10 p) + 1) (e0 : 0 ≤ h 14 (h 10 p)) : bd h p = mv (bd h (h 10 p)) (h 11 p) (h 12 p) := by
  unfold bd
  rw [show (h 14 p).toNat = (h 14 (h 10 p)).toNat + 1 by omega]
  rfl
theorem bdn_cg {ab fr to b0 ab2 fr2 to2 dp : Int → Int} {N : Int} (hq : ∀ q : Int, 1 ≤ q → q < N → ab2 q = ab q ∧ fr2 q = fr q ∧ to2 q = to q) (hd : ∀ q : Int, 1 ≤ q → q < N → dp q = dp (ab q) + 1 ∧ 0 ≤ ab q ∧ ab q < q) (h0 : dp 0 = 0) : ∀ (d : Nat) (p : Int), 0 ≤ p → p < N → dp p = d → bdn ab2 fr2 to2 b0 d p = bdn ab fr to b0 d p
  | 0, p, p0, p1, e => rfl
  | d + 1, p, p0, p1, e => by
    have hp : 1 ≤ p := by
      rcases (show p = 0 ∨ 1 ≤ p by omega) with k | k
      · subst k; omega
      · exact k
    obtain ⟨a1, a2, a3⟩ := hq p hp p1
    obtain ⟨d1, d2, d3⟩ := hd p hp p1
    show mv (bdn ab2 fr2 to2 b0 d (ab2 p)) (fr2 p) (to2 p) = mv (bdn ab fr to b0 d (ab p)) (fr p) (to p)
    rw [a1, a2, a3, bdn_cg hq hd h0 d (ab p) d2 (by omega) (by omega)]
theorem PsP.dp {h : HS} (w : PsP h) (g : PsR h) : ∀ p : Int, 0 ≤ p → p < h 9 8 → 0 ≤ h 14 p ∧ h 14 p < 200 := fun p p0 p1 => (g.g p p0 p1).2.2.2.1
theorem PsP.bs {h : HS} (w : PsP h) (g : PsR h) {p : Int} (p1 : 1 ≤ p) (p2 : p < h 9 8) : bd h p = mv (bd h (h 10 p)) (h 11 p) (h 12 p) := by
  obtain ⟨a1, a2, -⟩ := w.t p p1 p2
  exact bd_s a2 (w.dp g (h 10 p) a1.1 (by omega)).1
theorem PsP.rg {h : HS} (w : PsP h) (g : PsR h) : ∀ (m : Nat) (p : Int), p ≤ m → 0 ≤ p → p < h 9 8 → ∀ s : Int, 0 ≤ s → s < 64 → -1 ≤ bd h p s ∧ bd h p s < 2 * h 1 5
  | 0, p, e, p0, p1, s, s0, s1 => by
    obtain rfl : p = 0 := by omega
    rw [bd_0 w.z.2.2.2]
    exact w.f s s0 s1
  | m + 1, p, e, p0, p1, s, s0, s1 => by
    rcases (show p = 0 ∨ 1 ≤ p by omega) with k | k
    · subst k
      rw [bd_0 w.z.2.2.2]
      exact w.f s s0 s1
    · obtain ⟨a1, a2, a3, a4, -⟩ := w.t p k p1
      have ih := PsP.rg w g m (h 10 p) (by omega) a1.1 (by omega)
      have i1 := ih s s0 s1
      have i2 := ih (h 11 p) a3.1 a3.2
      rw [w.bs g k p1]
      unfold mv
      by_cases e1 : s = h 11 p
      · rw [if_pos e1]; omega
      · rw [if_neg e1]
        by_cases e2 : s = h 12 p
        · rw [if_pos e2]; exact i2
        · rw [if_neg e2]; exact i1
/-! all that holds between calls -/
abbrev Psi (h : HS) : Prop := PsT h ∧ PsE h ∧ PsB h ∧ PsK h ∧ PsS h ∧ PsR h ∧ PsC h ∧ PsA h ∧ PsP h
theorem Psi.T {h : HS} (w : Psi h) : PsT h := w.1
theorem Psi.E {h : HS} (w : Psi h) : PsE h := w.2.1
theorem Psi.B {h : HS} (w : Psi h) : PsB h := w.2.2.1
theorem Psi.K {h : HS} (w : Psi h) : PsK h := w.2.2.2.1
theorem Psi.S {h : HS} (w : Psi h) : PsS h := w.2.2.2.2.1
theorem Psi.R {h : HS} (w : Psi h) : PsR h := w.2.2.2.2.2.1
theorem Psi.C {h : HS} (w : Psi h) : PsC h := w.2.2.2.2.2.2.1
theorem Psi.A {h : HS} (w : Psi h) : PsA h := w.2.2.2.2.2.2.2.1
theorem Psi.P {h : HS} (w : Psi h) : PsP h := w.2.2.2.2.2.2.2.2
theorem Psi.N {h : HS} (w : Psi h) : PsN0 h := ⟨w.R.n, w.R.n2⟩
theorem PsNew.P {h : HS} (w : PsNew h) : PsP h := by
  obtain ⟨n1, n2, n3, n4⟩ := w.n
  obtain ⟨r1, r2, r3, r4, r5, r6, r7, r8⟩ := w.r
  have k := w.k
  refine ⟨⟨by omega, by omega⟩, ⟨r1, r2, r3, r5⟩, fun p p0 p1 => by omega, fun s s0 s1 => ?_, fun s s0 s1 => ?_⟩
  · obtain ⟨b1, b2, b3⟩ := w.b s s0 s1
    rw [n3, bd_0 r5]
    omega
  · obtain ⟨b1, b2, b3⟩ := w.b s s0 s1
    omega
theorem pPsiNew {h : HS} (w : PsNew h) : Psi h := ⟨w.T, w.E, w.B, w.K, w.S, w.R, w.C, w.A, w.P⟩
/-- cells that a call may leave as it likes -/
abbrev scr (a : Nat) (b : Int) : Prop := (a = 50 ∨ a = 18 ∨ a = 21 ∨ a = 22 ∨ a = 23 ∨ a = 24 ∨ a = 36 ∨ a = 40 ∨ a = 41 ∨ a = 42 ∨ a = 90 ∨ a = 91) ∨ (a = 0 ∧ (b = 9 ∨ b = 10 ∨ b = 11 ∨ b = 12)) ∨ (a = 30 ∧ (b = 0 ∨ 17 ≤ b))
def zsq (o h : HS) : Prop := ∀ (a : Nat) (b : Int), ¬ scr a b → o a b = h a b
theorem zsq.rf {h : HS} : zsq h h := fun _ _ _ => rfl
theorem zsq.tr {h2 h1 h : HS} (a : zsq h2 h1) (b : zsq h1 h) : zsq h2 h := fun i k hi => by rw [a i k hi, b i k hi]
theorem zeqv.sq {o h : HS} (e : zeqv o h) : zsq o h := fun a b hn => e a b (fun k => hn (Or.inl (Or.inl k))) (fun k => hn (Or.inr (Or.inr ⟨k.1, Or.inl k.2⟩)))
theorem zsq.c {o h : HS} (e : zsq o h) {a : Nat} (ha : ¬ (a = 50 ∨ a = 18 ∨ a = 21 ∨ a = 22 ∨ a = 23 ∨ a = 24 ∨ a = 36 ∨ a = 40 ∨ a = 41 ∨ a = 42 ∨ a = 90 ∨ a = 91 ∨ a = 0 ∨ a = 30)) : o a = h a := by
  funext b
  refine e a b (fun k => ha ?_)
  rcases k with k | k | k
  · omega
  · omega
  · omega
theorem zsq.c0 {o h : HS} (e : zsq o h) {b : Int} (hb : ¬ (b = 9 ∨ b = 10 ∨ b = 11 ∨ b = 12)) : o 0 b = h 0 b := e 0 b (fun k => by
  rcases k with k | k | k
  · omega
  · exact hb k.2
  · omega)
theorem zsq.c30 {o h : HS} (e : zsq o h) {b : Int} (hb : ¬ (b = 0 ∨ 17 ≤ b)) : o 30 b = h 30 b := e 30 b (fun k => by
  rcases k with k | k | k
  · omega
  · omega
  · exact hb k.2)
theorem fr36.sq {o h : HS} (e : fr36 o h) : zsq o h := fun a b hn => by rw [e a (fun k => hn (Or.inl (by omega)))]
theorem zsq.upd {o h : HS} (e : zsq o h) {a : Nat} {b v : Int} (hs1 : scr a b) : zsq (hs o a b v) h := fun i k hi => by
  rw [hs_at]
  by_cases e1 : i = a
  · subst e1
    rw [if_pos rfl, if_neg (fun e2 => hi (by rw [e2]; exact hs1))]
    exact e i k hi
  · rw [if_neg e1]
    exact e i k hi
theorem bd_sq {o h : HS} (e : zsq o h) : bd o = bd h := by
  funext p
  unfold bd
  rw [e.c (a := 10) (by decide), e.c (a := 11) (by decide), e.c (a := 12) (by decide), e.c (a := 34) (by decide), e.c (a := 14) (by decide)]
theorem kid_sq {o h : HS} (e : zsq o h) (i : Int) (j : Nat) : kid o i j = kid h i j := kid_cg (fun _ => by rw [e.c (a := 16) (by decide)]) (fun _ => by rw [e.c (a := 17) (by decide)]) i j
theorem PsP.sq {o h : HS} (w : PsP h) (e : zsq o h) : PsP o := by
  unfold PsP at *
  rw [bd_sq e, e.c (a := 10) (by decide), e.c (a := 11) (by decide), e.c (a := 12) (by decide), e.c (a := 34) (by decide), e.c (a := 14) (by decide), e.c (a := 13) (by decide), e.c (a := 9) (by decide), e.c (a := 8) (by decide), e.c (a := 35) (by decide), e.c (a := 1) (by decide), e.c0 (b := 8) (by decide), e.c30 (b := 9) (by decide)]
  exact w
theorem PsA.sq {o h : HS} (w : PsA h) (e : zsq o h) : PsA o := fun p p0 p1 => by
  rw [e.c (a := 9) (by decide)] at p1
  obtain ⟨a1, j, a2, a3⟩ := w p p0 p1
  rw [e.c (a := 10) (by decide), e.c (a := 15) (by decide)]
  exact ⟨a1, j, a2, by rw [kid_sq e]; exact a3⟩
theorem Psi.sq {o h : HS} (w : Psi h) (e : zsq o h) : Psi o :=
  ⟨w.T.cg (by rw [e.c (a := 19) (by decide)]) (e.c30 (by decide)) (fun i => by rw [e.c (a := 39) (by decide)]) (fun i => by rw [e.c (a := 20) (by decide)]),
   w.E.cg (fun b b0 b1 => e.c0 (by omega)) (fun b b0 b1 => e.c30 (by omega)),
   w.B.cg (by rw [e.c (a := 1) (by decide)]) (e.c30 (by decide)) (fun i => by rw [e.c (a := 35) (by decide)]) (fun i => by rw [e.c (a := 8) (by decide)]),
   w.K.cg (by rw [e.c (a := 1) (by decide)]) (e.c30 (by decide)) (fun i => by rw [e.c (a := 31) (by decide)]) (fun i => by rw [e.c (a := 2) (by decide)]),
   w.S.cg (fun i => by rw [e.c (a := 32) (by decide)]) (fun i => by rw [e.c (a := 3) (by decide)]) (fun i => by rw [e.c (a := 33) (by decide)]) (fun i => by rw [e.c (a := 4) (by decide)]) (fun i => by rw [e.c (a := 5) (by decide)]) (fun i => by rw [e.c (a := 6) (by decide)]),
   w.R.cg (by rw [e.c (a := 9) (by decide)]) (e.c30 (by decide)) (fun i => by rw [e.c (a := 37) (by decide)]) (fun i => by rw [e.c (a := 10) (by decide), e.c (a := 11) (by decide), e.c (a := 12) (by decide), e.c (a := 14) (by decide), e.c (a := 15) (by decide)]; exact ⟨rfl, rfl, rfl, rfl, rfl⟩),
   w.C.cg (by rw [e.c (a := 9) (by decide)]) (fun i => by rw [e.c (a := 16) (by decide)]) (fun i => by rw [e.c (a := 17) (by decide)]) (fun i => by rw [e.c (a := 38) (by decide)]) (fun i => by rw [e.c (a := 10) (by decide)]) (fun i => by rw [e.c (a := 15) (by decide)]),
   w.A.sq e, w.P.sq e⟩
end ZPSI
