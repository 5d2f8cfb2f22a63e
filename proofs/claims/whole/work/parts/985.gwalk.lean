section ZGWALK
/-! the class's turns over a game -/
theorem turn_leaf {h X : HS} {n stay : Int} {D : List Int} {t nf : Nat} (w : Hd (Psi h)) (hn : 0 ≤ n ∧ n < h 9 8) (c : cI h n D X) (hk : h 15 n ≤ 0) (ht : t < 800) : fX5_writeGame_L21 (nf + 1) stay 0 (t : Int) X = (fX5_leaveLine X).bind fun r => fX5_writeGame_L21 nf stay r.1 ((t + 1 : Nat) : Int) r.2 := by
  have wX := c.pc w hn
  have e9 : X 9 = h 9 := c.c (by decide) (by decide)
  have e15 : X 15 = h 15 := c.c (by decide) (by decide)
  have ec := pX4_childN wX.o (p := n) (x := 0) (by rw [e9]; exact hn) (by unfold zr; omega) (Or.inr (by rw [e15]; exact hk))
  rw [fX5_writeGame_L21]
  unfold fX5_writeGame_b91 fX5_goOn fX5_goOn_b11 fX5_goOn_b32
  rw [wr_of (z := (t : Int)) (by omega) (by omega), if_neg (by omega), if_neg (show ¬ wr 0 = -1 by decide), c.c08, ec, Option.bind_some, if_pos (show wr (-1) = -1 by decide), if_pos wr_0, if_pos (show wr (-1) = -1 by decide), if_pos (show wr (-1) = -1 by decide), Option.bind_some, if_pos (show wr (-1) = -1 by decide)]
  cases fX5_leaveLine X with
  | none => rfl
  | some r => rfl
theorem turn_0 {h X : HS} {n : Int} {D : List Int} {t : Nat} (w : Hd (Psi h)) (hn : 0 ≤ n ∧ n < h 9 8) (c : cI h n D X) (hk : 0 < h 15 n) (ht : t < 800) (hl : D.length + 8 ≤ 2000) : ∃ Y, cI h n (mvt h n 0 D) Y ∧ ∀ (nf : Nat) (stay : Int), fX5_writeGame_L21 (nf + 1) stay 0 (t : Int) X = fX5_writeGame_L21 nf stay 1 ((t + 1 : Nat) : Int) Y := by
  have wX := c.pc w hn
  have nn := w.o.R.n
  have e9 : X 9 = h 9 := c.c (by decide) (by decide)
  have e15 : X 15 = h 15 := c.c (by decide) (by decide)
  obtain ⟨m1, m2, m3, m4, m5, m6⟩ := kidM w hn (j := 0) hk
  have ec := pX4_childC wX.o (p := n) (x := 0) (by rw [e9]; exact hn) (by rw [e15]; omega)
  rw [show (0 : Int).toNat = 0 from rfl, c.k n 0] at ec
  obtain ⟨S, s1, s2⟩ := c.sp (by omega)
  have sl := spc_len (D := D)
  obtain ⟨Y, y1, y2⟩ := s2.mv w hn (j := 0) hk (by omega)
  have wS := s2.pc w hn
  have f1 : fX4_from (kid h n 0) S = some (h 11 (kid h n 0)) := by
    unfold fX4_from
    rw [pX4_row (a := 11) (by unfold zr; omega) (by rw [s2.c (a := 9) (by decide) (by decide)]; exact nn) (by rw [s2.c (a := 9) (by decide) (by decide)]; omega), s2.c (a := 11) (by decide) (by decide)]
  have f2 : fX4_to (kid h n 0) S = some (h 12 (kid h n 0)) := by
    unfold fX4_to
    rw [pX4_row (a := 12) (by unfold zr; omega) (by rw [s2.c (a := 9) (by decide) (by decide)]; exact nn) (by rw [s2.c (a := 9) (by decide) (by decide)]; omega), s2.c (a := 12) (by decide) (by decide)]
  refine ⟨Y, y2, fun nf stay => ?_⟩
  have wk := wr_of (z := kid h n 0) (by omega) (by omega)
  rw [fX5_writeGame_L21]
  unfold fX5_writeGame_b91 fX5_goOn fX5_writeOpening
  rw [wr_of (z := (t : Int)) (by omega) (by omega), if_neg (by omega), if_neg (show ¬ wr 0 = -1 by decide), c.c08, ec, Option.bind_some, wk, if_neg (by omega), if_pos (show wr 0 ≤ 0 by decide), Option.bind_some, s1, Option.bind_some, f1, Option.bind_some, f2, Option.bind_some, y1, Option.bind_some, if_pos wr_0, if_neg (by omega), Option.bind_some]
  rfl
theorem turn_j {h X : HS} {n : Int} {D : List Int} {t j : Nat} (w : Hd (Psi h)) (hn : 0 ≤ n ∧ n < h 9 8) (c : cI h n D X) (hj : (j : Int) < h 15 n) (j1 : 1 ≤ j) (ht : t < 800) (hl : D.length + 10 ≤ 2000) : ∃ Y, cI h (kid h n j) (mvt h n j (spc D ++ [40])) Y ∧ ∀ (nf : Nat) (stay : Int), fX5_writeGame_L21 (nf + 1) stay (j : Int) (t : Int) X = fX5_writeGame_L21 nf stay 0 ((t + 1 : Nat) : Int) Y := by
  have wX := c.pc w hn
  have nn := w.o.R.n
  have gk := (w.o.R.g n hn.1 hn.2).2.2.2.2
  have e9 : X 9 = h 9 := c.c (by decide) (by decide)
  have e15 : X 15 = h 15 := c.c (by decide) (by decide)
  obtain ⟨m1, m2, m3, m4, m5, m6⟩ := kidM w hn hj
  have ec := pX4_childC wX.o (p := n) (x := (j : Int)) (by rw [e9]; exact hn) (by rw [e15]; omega)
  rw [Int.toNat_natCast, c.k n j] at ec
  obtain ⟨S, s1, s2⟩ := c.sp (by omega)
  have sl := spc_len (D := D)
  obtain ⟨a1, a2⟩ := s2.app (v := 40) (by omega) (by omega)
  obtain ⟨Q, q1, q2⟩ := a2.sp (by rw [List.length_append]; simp only [List.length_cons, List.length_nil]; omega)
  rw [spc_40] at q2
  obtain ⟨Y, y1, y2⟩ := q2.mv w hn hj (by rw [List.length_append]; simp only [List.length_cons, List.length_nil]; omega)
  have f1 : fX4_from (kid h n j) Q = some (h 11 (kid h n j)) := by
    unfold fX4_from
    rw [pX4_row (a := 11) (by unfold zr; omega) (by rw [q2.c (a := 9) (by decide) (by decide)]; exact nn) (by rw [q2.c (a := 9) (by decide) (by decide)]; omega), q2.c (a := 11) (by decide) (by decide)]
  have f2 : fX4_to (kid h n j) Q = some (h 12 (kid h n j)) := by
    unfold fX4_to
    rw [pX4_row (a := 12) (by unfold zr; omega) (by rw [q2.c (a := 9) (by decide) (by decide)]; exact nn) (by rw [q2.c (a := 9) (by decide) (by decide)]; omega), q2.c (a := 12) (by decide) (by decide)]
  have ed := y2.dn w m1 m2
  refine ⟨atN Y (kid h n j), ?_, fun nf stay => ?_⟩
  · have := y2.go (p := kid h n j)
    unfold mvt
    rw [spc_40]
    exact this
  have wk := wr_of (z := kid h n j) (by omega) (by omega)
  have wj := wr_of (z := (j : Int)) (by omega) (by omega)
  rw [fX5_writeGame_L21]
  unfold fX5_writeGame_b91 fX5_goOn fX5_writeOpening fX5_goOn_b11 fX5_goOn_b32
  rw [wr_of (z := (t : Int)) (by omega) (by omega), if_neg (by omega), wj, if_neg (by omega), c.c08, ec, Option.bind_some, wk, if_neg (by omega), if_neg (by omega), s1, Option.bind_some, a1, Option.bind_some, Option.bind_some, q1, Option.bind_some, f1, Option.bind_some, f2, Option.bind_some, y1, Option.bind_some, if_neg (by omega), if_neg (by omega), if_neg (by omega), ed, Option.bind_some, Option.bind_some]
  rfl
theorem turn_k {h X : HS} {n stay : Int} {D : List Int} {t j nf : Nat} (w : Hd (Psi h)) (hn : 0 ≤ n ∧ n < h 9 8) (c : cI h n D X) (hj : (j : Int) = h 15 n) (j1 : 1 ≤ j) (ht : t < 800) : fX5_writeGame_L21 (nf + 1) stay (j : Int) (t : Int) X = fX5_writeGame_L21 nf stay 0 ((t + 1 : Nat) : Int) (atN X (kid h n 0)) := by
  have wX := c.pc w hn
  have nn := w.o.R.n
  have gk := (w.o.R.g n hn.1 hn.2).2.2.2.2
  have e9 : X 9 = h 9 := c.c (by decide) (by decide)
  have e15 : X 15 = h 15 := c.c (by decide) (by decide)
  obtain ⟨m1, m2, m3, m4, m5, m6⟩ := kidM w hn (j := 0) (show ((0 : Nat) : Int) < h 15 n by omega)
  have en := pX4_childN wX.o (p := n) (x := (j : Int)) (by rw [e9]; exact hn) (by unfold zr; omega) (Or.inr (by rw [e15]; omega))
  have ec := pX4_childC wX.o (p := n) (x := 0) (by rw [e9]; exact hn) (by rw [e15]; omega)
  rw [show (0 : Int).toNat = 0 from rfl, c.k n 0] at ec
  have ed := c.dn w m1 m2
  have wk := wr_of (z := kid h n 0) (by omega) (by omega)
  have wj := wr_of (z := (j : Int)) (by omega) (by omega)
  rw [fX5_writeGame_L21]
  unfold fX5_writeGame_b91 fX5_goOn fX5_goOn_b11 fX5_goOn_b32
  rw [wr_of (z := (t : Int)) (by omega) (by omega), if_neg (by omega), wj, if_neg (by omega), c.c08, en, Option.bind_some, if_pos (show wr (-1) = -1 by decide), if_neg (by omega), if_pos (show wr (-1) = -1 by decide), ec, Option.bind_some, wk, if_neg (by omega), ed, Option.bind_some, Option.bind_some]
  rfl
/-- all that is below a node is written, then its line is left -/
theorem cwalk {h : HS} {stay : Int} (w : Hd (Psi h)) : ∀ (f : Nat) (n : Int) (D : List Int) (X : HS) (t nf : Nat), 0 ≤ n ∧ n < h 9 8 → h 9 8 ≤ n + f → cI h n D X → D.length + 10 * gN h f n ≤ 2000 → t + (2 * gN h f n + 1) ≤ 800 → ∃ Y, cI h n (gT h f n D) Y ∧ fX5_writeGame_L21 (nf + (2 * gN h f n + 1)) stay 0 (t : Int) X = (fX5_leaveLine Y).bind fun r => fX5_writeGame_L21 nf stay r.1 ((t + (2 * gN h f n + 1) : Nat) : Int) r.2
  | 0, n, D, X, t, nf, hn, hf, c, hl, ht => by omega
  | f + 1, n, D, X, t, nf, hn, hf, c, hl, ht => by
    by_cases k0 : h 15 n ≤ 0
    · rw [gN_z k0] at hl ht ⊢
      refine ⟨X, ?_, turn_leaf w hn c k0 (by omega)⟩
      unfold gT
      rw [if_pos k0]
      exact c
    · have gk := (w.o.R.g n hn.1 hn.2).2.2.2.2
      obtain ⟨m1, m2, m3, -⟩ := kidM w hn (j := 0) (show ((0 : Nat) : Int) < h 15 n by omega)
      have inner : ∀ (m j : Nat) (D : List Int) (X : HS) (t nf : Nat), (j : Int) + m = h 15 n → 1 ≤ j → cI h n D X → D.length + 10 * (gN h f (kid h n 0) + gCn h (gN h f) n m j) ≤ 2000 → t + (2 * (gN h f (kid h n 0) + gCn h (gN h f) n m j) + 2) ≤ 800 → ∃ Y, cI h n (gT h f (kid h n 0) (gV h (gT h f) n m j D)) Y ∧ fX5_writeGame_L21 (nf + (2 * (gN h f (kid h n 0) + gCn h (gN h f) n m j) + 2)) stay (j : Int) (t : Int) X = (fX5_leaveLine Y).bind fun r => fX5_writeGame_L21 nf stay r.1 ((t + (2 * (gN h f (kid h n 0) + gCn h (gN h f) n m j) + 2) : Nat) : Int) r.2 := by
        intro m
        induction m with
        | zero =>
          intro j D X t nf hj j1 c hl ht
          have ez : gCn h (gN h f) n 0 j = 0 := rfl
          simp only [ez, Nat.add_zero] at hl ht ⊢
          obtain ⟨Y, y1, y2⟩ := cwalk w f (kid h n 0) D (atN X (kid h n 0)) (t + 1) nf (by omega) (by omega) c.go (by omega) (by omega)
          refine ⟨atN Y n, y1.go, ?_⟩
          rw [← lv_0 w hn (by omega) y1, show nf + (2 * gN h f (kid h n 0) + 2) = (nf + (2 * gN h f (kid h n 0) + 1)) + 1 by omega, turn_k w hn c (by omega) j1 (by omega), y2, show t + 1 + (2 * gN h f (kid h n 0) + 1) = t + (2 * gN h f (kid h n 0) + 2) by omega]
        | succ m ih =>
          intro j D X t nf hj j1 c hl ht
          have ez : gCn h (gN h f) n (m + 1) j = 1 + gN h f (kid h n j) + gCn h (gN h f) n m (j + 1) := rfl
          rw [ez] at hl ht ⊢
          obtain ⟨p1, p2, p3, -⟩ := kidM w hn (j := j) (by omega)
          obtain ⟨A, a1, a2⟩ := turn_j (t := t) w hn c (j := j) (by omega) j1 (by omega) (by omega)
          have l1 := mvt_len40 (h := h) (n := n) (j := j) (D := D)
          obtain ⟨B, b1, b2⟩ := cwalk w f (kid h n j) (mvt h n j (spc D ++ [40])) A (t + 1) (nf + (2 * (gN h f (kid h n 0) + gCn h (gN h f) n m (j + 1)) + 2)) (by omega) (by omega) a1 (by omega) (by omega)
          have l2 := gT_len (h := h) f (kid h n j) (mvt h n j (spc D ++ [40]))
          obtain ⟨E, e1, e2⟩ := lv_j w hn (j := j) (by omega) j1 b1 (by omega)
          obtain ⟨Y, y1, y2⟩ := ih (j + 1) _ E (t + 1 + (2 * gN h f (kid h n j) + 1)) nf (by omega) (by omega) e2 (by rw [List.length_append]; simp only [List.length_cons, List.length_nil]; omega) (by omega)
          refine ⟨Y, y1, ?_⟩
          rw [show nf + (2 * (gN h f (kid h n 0) + (1 + gN h f (kid h n j) + gCn h (gN h f) n m (j + 1))) + 2) = (nf + (2 * (gN h f (kid h n 0) + gCn h (gN h f) n m (j + 1)) + 2) + (2 * gN h f (kid h n j) + 1)) + 1 by omega, a2, b2, e1, Option.bind_some]
          dsimp only
          rw [show ((j : Int) + 1) = ((j + 1 : Nat) : Int) by omega, y2, show t + 1 + (2 * gN h f (kid h n j) + 1) + (2 * (gN h f (kid h n 0) + gCn h (gN h f) n m (j + 1)) + 2) = t + (2 * (gN h f (kid h n 0) + (1 + gN h f (kid h n j) + gCn h (gN h f) n m (j + 1))) + 2) by omega]
      rw [gN_s (by omega)] at hl ht ⊢
      obtain ⟨A, a1, a2⟩ := turn_0 (t := t) w hn c (by omega) (by omega) (by omega)
      have l1 := mvt_len (h := h) (n := n) (j := 0) (D := D)
      obtain ⟨Y, y1, y2⟩ := inner ((h 15 n).toNat - 1) 1 (mvt h n 0 D) A (t + 1) nf (by omega) (Nat.le_refl _) a1 (by omega) (by omega)
      refine ⟨Y, ?_, ?_⟩
      · unfold gT
        rw [if_neg k0]
        exact y1
      · rw [show nf + (2 * (1 + gN h f (kid h n 0) + gCn h (gN h f) n ((h 15 n).toNat - 1) 1) + 1) = (nf + (2 * (gN h f (kid h n 0) + gCn h (gN h f) n ((h 15 n).toNat - 1) 1) + 2)) + 1 by omega, a2]
        rw [show t + 1 + (2 * (gN h f (kid h n 0) + gCn h (gN h f) n ((h 15 n).toNat - 1) 1) + 2) = t + (2 * (1 + gN h f (kid h n 0) + gCn h (gN h f) n ((h 15 n).toNat - 1) 1) + 1) by omega] at y2
        exact y2
end ZGWALK
