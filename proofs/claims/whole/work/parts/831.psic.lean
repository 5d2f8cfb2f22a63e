section ZPSIC
/-! what holds of the class's cells alone (the first board, cell 34, stands beside them) -/
abbrev PcT (h : HS) : Prop := (0 ≤ h 19 1 ∧ h 19 1 ≤ 2000) ∧ (∀ i : Int, 0 ≤ i → i < h 19 1 → 0 ≤ h 20 i ∧ h 20 i ≤ 255)
abbrev PcK (h : HS) : Prop := (0 ≤ h 1 5 ∧ h 1 5 ≤ 6) ∧ (∀ i : Int, 0 ≤ i → i < h 1 5 → 65 ≤ h 2 i ∧ h 2 i ≤ 90)
abbrev PcS (h : HS) : Prop := (∀ i : Int, 0 ≤ i → i < 6 → 0 ≤ h 3 i ∧ h 3 i ≤ 8) ∧ (∀ i j : Int, 0 ≤ i → i < 6 → 0 ≤ j → j < h 3 i → (-3 ≤ h 4 (i * 8 + j) ∧ h 4 (i * 8 + j) ≤ 3) ∧ (-3 ≤ h 5 (i * 8 + j) ∧ h 5 (i * 8 + j) ≤ 3) ∧ 1 ≤ h 6 (i * 8 + j) ∧ h 6 (i * 8 + j) ≤ 7)
abbrev PcR (h : HS) : Prop := (1 ≤ h 9 8 ∧ h 9 8 ≤ 200) ∧ (∀ i : Int, 0 ≤ i → i < h 9 8 → (-1 ≤ h 10 i ∧ h 10 i < 200) ∧ (-1 ≤ h 11 i ∧ h 11 i < 64) ∧ (-1 ≤ h 12 i ∧ h 12 i < 64) ∧ (0 ≤ h 14 i ∧ h 14 i < 200) ∧ (0 ≤ h 15 i ∧ h 15 i < 200))
theorem PcR.n {h : HS} (w : PcR h) : 1 ≤ h 9 8 ∧ h 9 8 ≤ 200 := w.1
theorem PcR.g {h : HS} (w : PcR h) : ∀ i : Int, 0 ≤ i → i < h 9 8 → (-1 ≤ h 10 i ∧ h 10 i < 200) ∧ (-1 ≤ h 11 i ∧ h 11 i < 64) ∧ (-1 ≤ h 12 i ∧ h 12 i < 64) ∧ (0 ≤ h 14 i ∧ h 14 i < 200) ∧ (0 ≤ h 15 i ∧ h 15 i < 200) := w.2
abbrev PcC (h : HS) : Prop := (∀ i : Int, 0 ≤ i → i < h 9 8 → ∀ j : Nat, (j : Int) < h 15 i → (0 < kid h i j ∧ kid h i j < h 9 8) ∧ h 10 (kid h i j) = i) ∧ (∀ i : Int, 0 ≤ i → i < h 9 8 → ∀ j j2 : Nat, (j : Int) < h 15 i → (j2 : Int) < h 15 i → kid h i j = kid h i j2 → j = j2)
theorem PcC.c {h : HS} (w : PcC h) : ∀ i : Int, 0 ≤ i → i < h 9 8 → ∀ j : Nat, (j : Int) < h 15 i → (0 < kid h i j ∧ kid h i j < h 9 8) ∧ h 10 (kid h i j) = i := w.1
theorem PcC.d {h : HS} (w : PcC h) : ∀ i : Int, 0 ≤ i → i < h 9 8 → ∀ j j2 : Nat, (j : Int) < h 15 i → (j2 : Int) < h 15 i → kid h i j = kid h i j2 → j = j2 := w.2
abbrev PcP (h : HS) : Prop := (0 ≤ h 0 8 ∧ h 0 8 < h 9 8) ∧ (h 10 0 = -1 ∧ h 11 0 = -1 ∧ h 12 0 = -1 ∧ h 14 0 = 0) ∧ (∀ p : Int, 1 ≤ p → p < h 9 8 → (0 ≤ h 10 p ∧ h 10 p < p) ∧ h 14 p = h 14 (h 10 p) + 1 ∧ (0 ≤ h 11 p ∧ h 11 p < 64) ∧ (0 ≤ h 12 p ∧ h 12 p < 64) ∧ 0 ≤ bd h (h 10 p) (h 11 p) ∧ h 13 p = bd h (h 10 p) (h 12 p)) ∧ (∀ s : Int, 0 ≤ s → s < 64 → h 8 s = bd h (h 0 8) s) ∧ (∀ s : Int, 0 ≤ s → s < 64 → -1 ≤ h 34 s ∧ h 34 s < 2 * h 1 5)
theorem PcP.n {h : HS} (w : PcP h) : 0 ≤ h 0 8 ∧ h 0 8 < h 9 8 := w.1
theorem PcP.z {h : HS} (w : PcP h) : h 10 0 = -1 ∧ h 11 0 = -1 ∧ h 12 0 = -1 ∧ h 14 0 = 0 := w.2.1
theorem PcP.t {h : HS} (w : PcP h) : ∀ p : Int, 1 ≤ p → p < h 9 8 → (0 ≤ h 10 p ∧ h 10 p < p) ∧ h 14 p = h 14 (h 10 p) + 1 ∧ (0 ≤ h 11 p ∧ h 11 p < 64) ∧ (0 ≤ h 12 p ∧ h 12 p < 64) ∧ 0 ≤ bd h (h 10 p) (h 11 p) ∧ h 13 p = bd h (h 10 p) (h 12 p) := w.2.2.1
theorem PcP.b {h : HS} (w : PcP h) : ∀ s : Int, 0 ≤ s → s < 64 → h 8 s = bd h (h 0 8) s := w.2.2.2.1
theorem PcP.f {h : HS} (w : PcP h) : ∀ s : Int, 0 ≤ s → s < 64 → -1 ≤ h 34 s ∧ h 34 s < 2 * h 1 5 := w.2.2.2.2
theorem PcP.dp {h : HS} (w : PcP h) (g : PcR h) : ∀ p : Int, 0 ≤ p → p < h 9 8 → 0 ≤ h 14 p ∧ h 14 p < 200 := fun p p0 p1 => (g.g p p0 p1).2.2.2.1
theorem PcP.bs {h : HS} (w : PcP h) (g : PcR h) {p : Int} (p1 : 1 ≤ p) (p2 : p < h 9 8) : bd h p = mv (bd h (h 10 p)) (h 11 p) (h 12 p) := by
  obtain ⟨a1, a2, -⟩ := w.t p p1 p2
  exact bd_s a2 (w.dp g (h 10 p) a1.1 (by omega)).1
theorem PcP.rg {h : HS} (w : PcP h) (g : PcR h) : ∀ (m : Nat) (p : Int), p ≤ m → 0 ≤ p → p < h 9 8 → ∀ s : Int, 0 ≤ s → s < 64 → -1 ≤ bd h p s ∧ bd h p s < 2 * h 1 5
  | 0, p, e, p0, p1, s, s0, s1 => by
    obtain rfl : p = 0 := by omega
    rw [bd_0 w.z.2.2.2]
    exact w.f s s0 s1
  | m + 1, p, e, p0, p1, s, s0, s1 => by
    rcases (show p = 0 ∨ 1 ≤ p by omega) with k | k
    · subst k
      rw [bd_0 w.z.2.2.2]
      exact w.f s s0 s1
    · obtain ⟨a1, a2, a3, a4, -⟩ := w.t p k p1
      have ih := PcP.rg w g m (h 10 p) (by omega) a1.1 (by omega)
      have i1 := ih s s0 s1
      have i2 := ih (h 11 p) a3.1 a3.2
      rw [w.bs g k p1]
      unfold mv
      by_cases e1 : s = h 11 p
      · rw [if_pos e1]; omega
      · rw [if_neg e1]
        by_cases e2 : s = h 12 p
        · rw [if_pos e2]; exact i2
        · rw [if_neg e2]; exact i1
abbrev PsiC (h : HS) : Prop := PcT h ∧ PcK h ∧ PcS h ∧ PcR h ∧ PcC h ∧ PsA h ∧ PcP h
theorem PsiC.T {h : HS} (w : PsiC h) : PcT h := w.1
theorem PsiC.K {h : HS} (w : PsiC h) : PcK h := w.2.1
theorem PsiC.S {h : HS} (w : PsiC h) : PcS h := w.2.2.1
theorem PsiC.R {h : HS} (w : PsiC h) : PcR h := w.2.2.2.1
theorem PsiC.C {h : HS} (w : PsiC h) : PcC h := w.2.2.2.2.1
theorem PsiC.A {h : HS} (w : PsiC h) : PsA h := w.2.2.2.2.2.1
theorem PsiC.P {h : HS} (w : PsiC h) : PcP h := w.2.2.2.2.2.2
theorem Psi.cc {h : HS} (w : Psi h) : PsiC h :=
  ⟨⟨w.T.n, fun i i0 i1 => (w.T.by_ i i0 i1).2⟩, ⟨w.K.n, fun i i0 i1 => (w.K.le i i0 i1).2⟩, ⟨fun i i0 i1 => (w.S.c i i0 i1).2, fun i j i0 i1 j0 j1 => by
    obtain ⟨a1, a2, a3, a4, a5, a6, a7⟩ := w.S.s i j i0 i1 j0 j1
    exact ⟨a4, a5, a7⟩⟩, ⟨w.R.n, w.R.g⟩, ⟨fun i i0 i1 j hj => by
    obtain ⟨a1, a2, a3⟩ := w.C.c i i0 i1 j hj
    exact ⟨a1, a3⟩, w.C.d⟩, w.A, ⟨w.P.n.1, w.P.z, w.P.t, fun s s0 s1 => (w.P.b s s0 s1).1, w.P.f⟩⟩
/-- the same for the class, but for what a call may leave -/
def zqc (o h : HS) : Prop := ∀ (a : Nat) (b : Int), (a < 30 ∨ a = 34) → ¬ scr a b → o a b = h a b
theorem zqc.rf {h : HS} : zqc h h := fun _ _ _ _ => rfl
theorem zqc.tr {h2 h1 h : HS} (a : zqc h2 h1) (b : zqc h1 h) : zqc h2 h := fun i k hi hn => by rw [a i k hi hn, b i k hi hn]
theorem zsq.qc {o h : HS} (e : zsq o h) : zqc o h := fun a b _ hn => e a b hn
theorem zqc.c {o h : HS} (e : zqc o h) {a : Nat} (ha : (a < 30 ∨ a = 34) ∧ ¬ (a = 18 ∨ a = 21 ∨ a = 22 ∨ a = 23 ∨ a = 24 ∨ a = 0)) : o a = h a := by
  funext b
  refine e a b ha.1 (fun k => ha.2 ?_)
  rcases k with k | k | k
  · omega
  · omega
  · omega
theorem zqc.c0 {o h : HS} (e : zqc o h) {b : Int} (hb : ¬ (b = 9 ∨ b = 10 ∨ b = 11 ∨ b = 12)) : o 0 b = h 0 b := e 0 b (Or.inl (by decide)) (fun k => by
  rcases k with k | k | k
  · omega
  · exact hb k.2
  · omega)
theorem bd_qc {o h : HS} (e : zqc o h) : bd o = bd h := bd_eq (e.c (by decide)) (e.c (by decide)) (e.c (by decide)) (e.c (by decide)) (e.c (by decide))
theorem PsiC.sq {o h : HS} (w : PsiC h) (e : zqc o h) : PsiC o := by
  have ek : ∀ i j, kid o i j = kid h i j := fun i j => kid_cg (fun i => by rw [e.c (a := 16) (by decide)]) (fun i => by rw [e.c (a := 17) (by decide)]) i j
  refine ⟨?_, ?_, ?_, ?_, ?_, ?_, ?_⟩
  · unfold PcT
    rw [e.c (a := 19) (by decide), e.c (a := 20) (by decide)]
    exact w.T
  · unfold PcK
    rw [e.c (a := 1) (by decide), e.c (a := 2) (by decide)]
    exact w.K
  · unfold PcS
    rw [e.c (a := 3) (by decide), e.c (a := 4) (by decide), e.c (a := 5) (by decide), e.c (a := 6) (by decide)]
    exact w.S
  · unfold PcR
    rw [e.c (a := 9) (by decide), e.c (a := 10) (by decide), e.c (a := 11) (by decide), e.c (a := 12) (by decide), e.c (a := 14) (by decide), e.c (a := 15) (by decide)]
    exact w.R
  · unfold PcC
    simp only [ek]
    rw [e.c (a := 9) (by decide), e.c (a := 10) (by decide), e.c (a := 15) (by decide)]
    exact w.C
  · exact w.A.cg (e.c (by decide)) (e.c (by decide)) (e.c (by decide)) (e.c (by decide)) (e.c (by decide))
  · unfold PcP
    rw [bd_qc e, e.c (a := 10) (by decide), e.c (a := 11) (by decide), e.c (a := 12) (by decide), e.c (a := 34) (by decide), e.c (a := 14) (by decide), e.c (a := 13) (by decide), e.c (a := 9) (by decide), e.c (a := 8) (by decide), e.c (a := 1) (by decide), e.c0 (b := 8) (by decide)]
    exact w.P
/-- the same for the reference, but for what a call may leave -/
def zqm (o h : HS) : Prop := ∀ (a : Nat) (b : Int), 30 ≤ a → ¬ scr a b → o a b = h a b
theorem zqm.rf {h : HS} : zqm h h := fun _ _ _ _ => rfl
theorem zqm.tr {h2 h1 h : HS} (a : zqm h2 h1) (b : zqm h1 h) : zqm h2 h := fun i k hi hn => by rw [a i k hi hn, b i k hi hn]
theorem zsq.qm {o h : HS} (e : zsq o h) : zqm o h := fun a b _ hn => e a b hn
theorem zqm.c {o h : HS} (e : zqm o h) {a : Nat} (ha : 30 < a ∧ ¬ (a = 50 ∨ a = 36 ∨ a = 40 ∨ a = 41 ∨ a = 42 ∨ a = 90 ∨ a = 91)) : o a = h a := by
  funext b
  refine e a b (by omega) (fun k => ha.2 ?_)
  rcases k with k | k | k
  · omega
  · omega
  · omega
theorem zqm.c30 {o h : HS} (e : zqm o h) {b : Int} (hb : ¬ (b = 0 ∨ 17 ≤ b)) : o 30 b = h 30 b := e 30 b (Nat.le_refl _) (fun k => by
  rcases k with k | k | k
  · omega
  · omega
  · exact hb k.2)
end ZPSIC
