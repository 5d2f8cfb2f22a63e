section ZGCLS
/-! the class writes a game -/
theorem bd_atN {h : HS} {q : Int} : bd (atN h q) = bd h := bd_eq (atN_ne (by decide) (by decide)) (atN_ne (by decide) (by decide)) (atN_ne (by decide) (by decide)) (atN_ne (by decide) (by decide)) (atN_ne (by decide) (by decide))
theorem PsiC.at {h : HS} (w : PsiC h) {q : Int} (q0 : 0 ≤ q) (q1 : q < h 9 8) : PsiC (atN h q) := by
  have e : ∀ a : Nat, a ≠ 8 → a ≠ 0 → atN h q a = h a := fun a h8 h0 => atN_ne h8 h0
  have ek : ∀ i j, kid (atN h q) i j = kid h i j := fun i j => kid_cg (fun i => by rw [e 16 (by decide) (by decide)]) (fun i => by rw [e 17 (by decide) (by decide)]) i j
  refine ⟨?_, ?_, ?_, ?_, ?_, ?_, ⟨?_, ?_, ?_, fun s s0 s1 => ?_, ?_⟩⟩
  · unfold PcT
    rw [e 19 (by decide) (by decide), e 20 (by decide) (by decide)]
    exact w.T
  · unfold PcK
    rw [e 1 (by decide) (by decide), e 2 (by decide) (by decide)]
    exact w.K
  · unfold PcS
    rw [e 3 (by decide) (by decide), e 4 (by decide) (by decide), e 5 (by decide) (by decide), e 6 (by decide) (by decide)]
    exact w.S
  · unfold PcR
    rw [e 9 (by decide) (by decide), e 10 (by decide) (by decide), e 11 (by decide) (by decide), e 12 (by decide) (by decide), e 14 (by decide) (by decide), e 15 (by decide) (by decide)]
    exact w.R
  · unfold PcC
    simp only [ek]
    rw [e 9 (by decide) (by decide), e 10 (by decide) (by decide), e 15 (by decide) (by decide)]
    exact w.C
  · exact w.A.cg (e 9 (by decide) (by decide)) (e 10 (by decide) (by decide)) (e 15 (by decide) (by decide)) (e 16 (by decide) (by decide)) (e 17 (by decide) (by decide))
  · rw [atN_08, e 9 (by decide) (by decide)]
    exact ⟨q0, q1⟩
  · rw [e 10 (by decide) (by decide), e 11 (by decide) (by decide), e 12 (by decide) (by decide), e 14 (by decide) (by decide)]
    exact w.P.z
  · rw [bd_atN, e 9 (by decide) (by decide), e 10 (by decide) (by decide), e 11 (by decide) (by decide), e 12 (by decide) (by decide), e 13 (by decide) (by decide), e 14 (by decide) (by decide)]
    exact w.P.t
  · rw [bd_atN, atN_08]
    exact atN_8 ⟨s0, s1⟩
  · rw [e 34 (by decide) (by decide), e 1 (by decide) (by decide)]
    exact w.P.f
theorem atN_qc {X h : HS} {q p : Int} (e : zqc X (atN h q)) : zqc (atN X p) (atN h p) := fun a b ha hn => by
  have eb : bd X = bd h := (bd_qc e).trans bd_atN
  by_cases h8 : a = 8
  · subst h8
    by_cases hb : 0 ≤ b ∧ b < 64
    · rw [atN_8 hb, atN_8 hb, eb]
    · rw [atN_8o hb, atN_8o hb, e 8 b ha hn, atN_8o hb]
  · by_cases h0 : a = 0
    · subst h0
      by_cases hb : b = 8
      · rw [hb, atN_08, atN_08]
      · rw [atN_0 hb, atN_0 hb, e 0 b ha hn, atN_0 hb]
    · rw [atN_ne h8 h0, atN_ne h8 h0, e a b ha hn, atN_ne h8 h0]
/-- the class stands at node q, its draft holds D -/
def cI (h : HS) (q : Int) (D : List Int) (X : HS) : Prop := zqc X (atN h q) ∧ (∀ a : Nat, 30 ≤ a → X a = h a) ∧ X 21 2 = 0 ∧ txt (X 21 1) (X 22) D ∧ byL D
theorem cI.c {h X : HS} {q : Int} {D : List Int} (c : cI h q D X) {a : Nat} (ha : (a < 30 ∨ a = 34) ∧ ¬ (a = 18 ∨ a = 21 ∨ a = 22 ∨ a = 23 ∨ a = 24 ∨ a = 0)) (h8 : a ≠ 8) : X a = h a := by
  rw [c.1.c ha, atN_ne h8 (fun k => ha.2 (by omega))]
theorem cI.c08 {h X : HS} {q : Int} {D : List Int} (c : cI h q D X) : X 0 8 = q := by
  rw [c.1.c0 (by decide), atN_08]
theorem cI.pc {h X : HS} {q : Int} {D : List Int} (w : Hd (Psi h)) (hq : 0 ≤ q ∧ q < h 9 8) (c : cI h q D X) : Hd (PsiC X) := Hd.i ((w.o.cc.at hq.1 hq.2).sq c.1)
theorem cI.k {h X : HS} {q : Int} {D : List Int} (c : cI h q D X) (i : Int) (j : Nat) : kid X i j = kid h i j := kid_cg (fun i => by rw [c.c (a := 16) (by decide) (by decide)]) (fun i => by rw [c.c (a := 17) (by decide) (by decide)]) i j
theorem cI.R {h X : HS} {q : Int} {D : List Int} (w : Hd (Psi h)) (c : cI h q D X) : Hd (PsR X) := Hd.i (w.o.R.cg (by rw [c.c (by decide) (by decide)]) (by rw [c.2.1 30 (by decide)]) (fun i => by rw [c.2.1 37 (by decide)]) (fun i => by
  rw [c.c (a := 10) (by decide) (by decide), c.c (a := 11) (by decide) (by decide), c.c (a := 12) (by decide) (by decide), c.c (a := 14) (by decide) (by decide), c.c (a := 15) (by decide) (by decide)]
  exact ⟨rfl, rfl, rfl, rfl, rfl⟩))
theorem cI.C {h X : HS} {q : Int} {D : List Int} (w : Hd (Psi h)) (c : cI h q D X) : Hd (PsC X) := Hd.i (w.o.C.cg (by rw [c.c (by decide) (by decide)]) (fun i => by rw [c.c (a := 16) (by decide) (by decide)]) (fun i => by rw [c.c (a := 17) (by decide) (by decide)]) (fun i => by rw [c.2.1 38 (by decide)]) (fun i => by rw [c.c (a := 10) (by decide) (by decide)]) (fun i => by rw [c.c (a := 15) (by decide) (by decide)]))
theorem cI.go {h X : HS} {q p : Int} {D : List Int} (c : cI h q D X) : cI h p D (atN X p) := ⟨atN_qc c.1, fun a ha => by rw [atN_ne (by omega) (by omega), c.2.1 a ha], by rw [atN_ne (by decide) (by decide)]; exact c.2.2.1, by rw [atN_ne (by decide) (by decide), atN_ne (by decide) (by decide)]; exact c.2.2.2.1, c.2.2.2.2⟩
theorem cI.dn {h X : HS} {q p : Int} {D : List Int} (w : Hd (Psi h)) (hp : 1 ≤ p ∧ p < h 9 8) (hq : h 10 p = q) (c : cI h q D X) : fX5_stepDown p X = some (atN X p) := by
  obtain ⟨a1, -⟩ := w.o.P.t p hp.1 hp.2
  have wX := c.pc w ⟨by omega, by omega⟩
  have e := stepDown_at wX.o (p := p) hp.1 (by rw [c.c (a := 9) (by decide) (by decide)]; exact hp.2)
  rw [c.c (a := 10) (by decide) (by decide), hq, ← c.c08, atN_self wX.o] at e
  exact e
theorem cI.up {h X : HS} {p : Int} {D : List Int} (w : Hd (Psi h)) (hp : 1 ≤ p ∧ p < h 9 8) (c : cI h p D X) : fX5_stepUp X = some (atN X (h 10 p)) := by
  have wX := c.pc w ⟨by omega, by omega⟩
  have e := stepUp_at wX.o (p := p) hp.1 (by rw [c.c (a := 9) (by decide) (by decide)]; exact hp.2)
  have es := atN_self wX.o
  rw [c.c08] at es
  rw [c.c (a := 10) (by decide) (by decide), es] at e
  exact e
theorem cI.app {h X : HS} {q v : Int} {D : List Int} (c : cI h q D X) (hl : D.length < 2000) (hv : 0 ≤ v ∧ v ≤ 255) : fX3_append_d v X = some (apD2 v X) ∧ cI h q (D ++ [v]) (apD2 v X) := by
  have sz := c.2.2.2.1.1
  refine ⟨pX3_appD2 (by omega), fun a b ha hn => ?_, fun a ha => ?_, ?_, apD2_txt c.2.2.2.1, by_app c.2.2.2.2 (by_1 hv)⟩
  · rw [apD2_ne (fun k => hn (Or.inl (by omega))) (fun k => hn (Or.inl (by omega)))]
    exact c.1 a b ha hn
  · rw [apD2_ne (by omega) (by omega), c.2.1 a ha]
  · rw [apD2_o (by decide)]
    exact c.2.2.1
theorem cI.sp {h X : HS} {q : Int} {D : List Int} (c : cI h q D X) (hl : D.length < 2000) : ∃ Y, fX3_separate_d X = some Y ∧ cI h q (spc D) Y := by
  have sz := c.2.2.2.1.1
  unfold fX3_separate_d spc
  rw [wr_of (z := X 21 1) (by omega) (by omega)]
  by_cases q0 : D.length = 0
  · rw [if_pos (by omega), if_pos q0]
    exact ⟨X, rfl, c⟩
  · have e := c.2.2.2.1.2 (D.length - 1) (by omega)
    rw [show ((D.length - 1 : Nat) : Int) = X 21 1 - 1 by omega] at e
    have bv := c.2.2.2.2 _ (List.mem_of_getElem? e)
    rw [if_neg (by omega), if_neg q0, e]
    unfold fX3_get_d
    rw [wr_of (z := X 21 1 - 1) (by omega) (by omega), wr_of (z := X 21 1) (by omega) (by omega), if_neg (by omega), if_neg (by omega), if_pos (by omega), Option.bind_some, wr_of (z := X 22 (X 21 1 - 1)) (by omega) (by omega)]
    by_cases q1 : X 22 (X 21 1 - 1) = 40
    · rw [if_pos q1, if_pos (by rw [q1])]
      exact ⟨X, rfl, c⟩
    · rw [if_neg q1, if_neg (fun k => q1 (Option.some.inj k))]
      obtain ⟨e1, e2⟩ := c.app hl (v := 32) (by omega)
      rw [e1, Option.bind_some]
      exact ⟨_, rfl, e2⟩
theorem alD2_cI {h : HS} {q : Int} : ∀ (u : List Int) {X : HS} {D : List Int}, cI h q D X → D.length + u.length ≤ 2000 → byL u → cI h q (D ++ u) (alD2 u X)
  | [], X, D, c, hl, hu => by
    rw [List.append_nil]
    exact c
  | v :: u, X, D, c, hl, hu => by
    rw [List.length_cons] at hl
    have e := alD2_cI u (c.app (by omega) (hu v List.mem_cons_self)).2 (by rw [List.length_append]; simp only [List.length_cons, List.length_nil]; omega) (fun x hx => hu x (List.mem_cons_of_mem v hx))
    rw [List.append_assoc] at e
    exact e
theorem gdN {h : HS} (w : Hd (Psi h)) {n : Int} (hn : 0 ≤ n ∧ n < h 9 8) : gd (kOf h) (h 1 5) (bd h n) := by
  have g := w.o.gg
  exact ⟨g.1, fun s s0 s1 => w.o.P.rg w.o.R n.toNat n (by omega) hn.1 hn.2 s s0 s1, g.2.2⟩
/-- the move of a child: its squares, its man -/
theorem kidM {h : HS} (w : Hd (Psi h)) {n : Int} (hn : 0 ≤ n ∧ n < h 9 8) {j : Nat} (hj : (j : Int) < h 15 n) : (1 ≤ kid h n j ∧ kid h n j < h 9 8) ∧ h 10 (kid h n j) = n ∧ n < kid h n j ∧ (0 ≤ h 11 (kid h n j) ∧ h 11 (kid h n j) < 64) ∧ (0 ≤ h 12 (kid h n j) ∧ h 12 (kid h n j) < 64) ∧ 0 ≤ bd h n (h 11 (kid h n j)) := by
  obtain ⟨k1, k2, k3⟩ := w.o.C.c n hn.1 hn.2 j hj
  obtain ⟨a1, a2, a3, a4, a5, a6⟩ := w.o.P.t (kid h n j) (by omega) k1.2
  rw [k3] at a5 a1
  exact ⟨⟨by omega, k1.2⟩, k3, a1.2, a3, a4, a5⟩
theorem kidB {h : HS} (w : Hd (Psi h)) {n : Int} (hn : 0 ≤ n ∧ n < h 9 8) {j : Nat} (hj : (j : Int) < h 15 n) : byL (mvB (kOf h) (h 2) (bd h n) (h 11 (kid h n j)) (h 12 (kid h n j))) ∧ h 31 (bd h n (h 11 (kid h n j)) / 2) = h 2 (bd h n (h 11 (kid h n j)) / 2) := by
  obtain ⟨m1, m2, m3, m4, m5, m6⟩ := kidM w hn hj
  have r := (gdN w hn).2.1 (h 11 (kid h n j)) m4.1 m4.2
  have l := w.o.K.le (bd h n (h 11 (kid h n j)) / 2) (by omega) (by omega)
  refine ⟨fun v hv => ?_, l.1⟩
  have := mvB_rg l.2 m4 m5 v hv
  omega
theorem cI.mv {h X : HS} {n : Int} {D : List Int} (w : Hd (Psi h)) (hn : 0 ≤ n ∧ n < h 9 8) {j : Nat} (hj : (j : Int) < h 15 n) (c : cI h n D X) (hl : D.length + 7 ≤ 2000) : ∃ Y, fX5_writeMove_d (h 11 (kid h n j)) (h 12 (kid h n j)) X = some Y ∧ cI h n (D ++ mvB (kOf h) (h 2) (bd h n) (h 11 (kid h n j)) (h 12 (kid h n j))) Y := by
  obtain ⟨m1, m2, m3, m4, m5, m6⟩ := kidM w hn hj
  have sz := c.2.2.2.1.1
  have c0 : cSt (kOf h) (h 1 5) (bd h n) X := ⟨by rw [c.c (a := 1) (by decide) (by decide)], fun s s0 s1 => by rw [c.1.c (a := 8) (by decide), atN_8 ⟨s0, s1⟩], fun i _ _ => by rw [c.c (a := 3) (by decide) (by decide)]; rfl, fun i j _ _ _ _ => by rw [c.c (a := 4) (by decide) (by decide), c.c (a := 5) (by decide) (by decide), c.c (a := 6) (by decide) (by decide)]; exact ⟨rfl, rfl, rfl⟩⟩
  have e := wmD2 (gdN w hn) c0 m4 m5 m6 (by omega)
  rw [c.c (a := 2) (by decide) (by decide)] at e
  have ul := mvB_len (K := kOf h) (L := h 2) (b := bd h n) (f := h 11 (kid h n j)) (t := h 12 (kid h n j))
  exact ⟨_, e, alD2_cI _ c (by omega) (kidB w hn hj).1⟩
/-! a line is left -/
theorem lv_fuel : ∀ (d nf nf2 : Nat) (X : HS), d < nf → d < nf2 → d ≤ 1000 → fX5_leaveLine_L12 nf (d : Int) X = fX5_leaveLine_L12 nf2 (d : Int) X
  | d, 0, nf2, X, h1, h2, h3 => by omega
  | d, _ + 1, 0, X, h1, h2, h3 => by omega
  | 0, nf + 1, nf2 + 1, X, h1, h2, h3 => by
    rw [fX5_leaveLine_L12, fX5_leaveLine_L12]
    rw [if_pos (by decide), if_pos (by decide)]
  | d + 1, nf + 1, nf2 + 1, X, h1, h2, h3 => by
    have ih : ∀ Y, fX5_leaveLine_L12 nf (((d + 1 : Nat) : Int) + -1) Y = fX5_leaveLine_L12 nf2 (((d + 1 : Nat) : Int) + -1) Y := fun Y => by
      rw [show ((d + 1 : Nat) : Int) + -1 = (d : Int) by omega]
      exact lv_fuel d nf nf2 Y (by omega) (by omega) (by omega)
    rw [fX5_leaveLine_L12, fX5_leaveLine_L12]
    simp only [ih]
theorem lv_top {h X : HS} {D : List Int} (w : Hd (Psi h)) (c : cI h 0 D X) : fX5_leaveLine X = some (-1, X) := by
  have n := w.o.R.n
  have wX := c.pc w ⟨by omega, by omega⟩
  have z := w.o.P.z.2.2.2
  unfold fX5_leaveLine
  rw [c.c08, pX4_depth wX.o.R (by rw [c.c (a := 9) (by decide) (by decide)]; omega), Option.bind_some, c.c (a := 14) (by decide) (by decide), z]
  show fX5_leaveLine_L12 (4999 + 1) 0 X = _
  rw [fX5_leaveLine_L12]
  rw [if_pos (by decide)]
theorem lv_step {h X : HS} {D : List Int} {n : Int} {j : Nat} (w : Hd (Psi h)) (hn : 0 ≤ n ∧ n < h 9 8) (hj : (j : Int) < h 15 n) (c : cI h (kid h n j) D X) : fX5_leaveLine X = if (j : Int) ≤ 0 then fX5_leaveLine (atN X n) else (fX3_append_d 41 (atN X n)).bind fun r3 => some ((j : Int) + 1, r3) := by
  obtain ⟨m1, m2, m3, -⟩ := kidM w hn hj
  obtain ⟨a1, a2, -⟩ := w.o.P.t (kid h n j) m1.1 m1.2
  have nn := w.o.R.n
  have gk := (w.o.R.g n hn.1 hn.2).2.2.2.2
  have dn := w.o.P.dp w.o.R n hn.1 hn.2
  have wX := c.pc w ⟨by omega, by omega⟩
  have c2 : cI h n D (atN X n) := c.go
  have wX2 := c2.pc w hn
  obtain ⟨d, hd⟩ : ∃ d : Nat, h 14 n = d := ⟨(h 14 n).toNat, by omega⟩
  have e2 : fX5_leaveLine (atN X n) = fX5_leaveLine_L12 zF (d : Int) (atN X n) := by
    unfold fX5_leaveLine
    rw [c2.c08, pX4_depth wX2.o.R (by rw [c2.c (a := 9) (by decide) (by decide)]; exact hn), Option.bind_some, c2.c (a := 14) (by decide) (by decide), hd]
  rw [e2]
  unfold fX5_leaveLine
  rw [c.c08, pX4_depth wX.o.R (by rw [c.c (a := 9) (by decide) (by decide)]; omega), Option.bind_some, c.c (a := 14) (by decide) (by decide), a2, m2, hd]
  show fX5_leaveLine_L12 (4999 + 1) ((d : Int) + 1) X = _
  have ep : fX4_placeOf (kid h n j) X = some (j : Int) := pX4_placeOf (c.R w).o (c.C w).o (by rw [c.c (a := 9) (by decide) (by decide)]; exact m1) (a := n) (by rw [c.c (a := 10) (by decide) (by decide)]; exact m2) (by rw [c.c (a := 9) (by decide) (by decide)]; exact hn) (j := j) (by rw [c.c (a := 15) (by decide) (by decide)]; exact hj) (c.k n j)
  have eu := c.up w m1
  rw [m2] at eu
  rw [fX5_leaveLine_L12]
  rw [wr_of (z := (d : Int) + 1) (by omega) (by omega), if_neg (by omega), c.c08, ep, Option.bind_some, eu, Option.bind_some, wr_of (z := (j : Int)) (by omega) (by omega), show (d : Int) + 1 + -1 = (d : Int) by omega, lv_fuel d 4999 zF (atN X n) (by omega) (by unfold zF; omega) (by omega)]
theorem lv_0 {h X : HS} {D : List Int} {n : Int} (w : Hd (Psi h)) (hn : 0 ≤ n ∧ n < h 9 8) (hk : 0 < h 15 n) (c : cI h (kid h n 0) D X) : fX5_leaveLine X = fX5_leaveLine (atN X n) := by
  rw [lv_step w hn (j := 0) hk c, if_pos (by decide)]
theorem lv_j {h X : HS} {D : List Int} {n : Int} {j : Nat} (w : Hd (Psi h)) (hn : 0 ≤ n ∧ n < h 9 8) (hj : (j : Int) < h 15 n) (j1 : 1 ≤ j) (c : cI h (kid h n j) D X) (hl : D.length < 2000) : ∃ Y, fX5_leaveLine X = some ((j : Int) + 1, Y) ∧ cI h n (D ++ [41]) Y := by
  obtain ⟨e1, e2⟩ := (c.go (p := n)).app hl (v := 41) (by omega)
  rw [lv_step w hn hj c, if_neg (by omega), e1, Option.bind_some]
  exact ⟨_, rfl, e2⟩
end ZGCLS
