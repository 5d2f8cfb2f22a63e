section ZGREF
/-! the reference writes a game -/
def rI (h g0 : HS) (D : List Int) (g : HS) : Prop := (∀ (a : Nat) (b : Int), 30 ≤ a → ¬ scr a b → a ≠ 35 → g a b = h a b) ∧ (∀ a : Nat, a < 30 → g a = g0 a) ∧ g 50 = g0 50 ∧ g 30 0 = g0 30 0 ∧ MT D g ∧ byL D
theorem rI.c {h g0 g : HS} {D : List Int} (r : rI h g0 D g) {a : Nat} (ha : 30 < a ∧ ¬ (a = 50 ∨ a = 36 ∨ a = 40 ∨ a = 41 ∨ a = 42 ∨ a = 90 ∨ a = 91 ∨ a = 35)) : g a = h a := by
  funext b
  exact r.1 a b (by omega) (fun k => ha.2 (by rcases k with k | k | k <;> omega)) (by omega)
theorem rI.P {h g0 g g1 : HS} {D D1 : List Int} (r : rI h g0 D g) (f : frP g1 g) (m : MT D1 g1) (b1 : byL D1) : rI h g0 D1 g1 := by
  refine ⟨fun a b ha hn h35 => ?_, fun a ha => by rw [f.1 a (by omega) (by omega) (by omega), r.2.1 a ha], by rw [f.1 50 (by decide) (by decide) (by decide), r.2.2.1], by rw [f.2 0 (by decide) (by decide), r.2.2.2.1], m, b1⟩
  by_cases a30 : a = 30
  · subst a30
    rw [f.2 b (fun k => hn (Or.inr (Or.inr ⟨rfl, by omega⟩))) (fun k => hn (Or.inr (Or.inr ⟨rfl, by omega⟩)))]
    exact r.1 30 b ha hn h35
  · rw [f.1 a (fun k => hn (Or.inl (by omega))) (fun k => hn (Or.inl (by omega))) a30]
    exact r.1 a b ha hn h35
theorem mBlank {g : HS} {D : List Int} (m : MT D g) (b : byL D) (hl : D.length < 2000) : ∃ g1, fX6_blank g = some g1 ∧ MT (spc D) g1 ∧ frP g1 g := by
  have sz := m.2.1
  unfold fX6_blank spc
  rw [wr_of (z := g 30 23) (by omega) (by omega)]
  by_cases q0 : D.length = 0
  · rw [if_pos (by omega), if_pos q0]
    exact ⟨g, rfl, m, frP_rf⟩
  · have e := m.2.2 (D.length - 1) (by omega)
    rw [show ((D.length - 1 : Nat) : Int) = g 30 23 - 1 by omega] at e
    have bv := b _ (List.mem_of_getElem? e)
    rw [if_neg (by omega), if_neg q0, e, if_pos (by omega), wr_of (z := g 41 (g 30 23 - 1)) (by omega) (by omega)]
    by_cases q1 : g 41 (g 30 23 - 1) = 40
    · rw [if_pos q1, if_pos (by rw [q1])]
      exact ⟨g, rfl, m, frP_rf⟩
    · rw [if_neg q1, if_neg (fun k => q1 (Option.some.inj k))]
      obtain ⟨g1, e1, m1, f1⟩ := mPut m hl 32
      rw [e1, Option.bind_some]
      exact ⟨g1, rfl, m1, f1⟩
theorem rI.put {h g0 g : HS} {D : List Int} {v : Int} (r : rI h g0 D g) (hl : D.length < 2000) (hv : 0 ≤ v ∧ v ≤ 255) : ∃ g1, fX6_put_ v g = some g1 ∧ rI h g0 (D ++ [v]) g1 := by
  obtain ⟨g1, e1, m1, f1⟩ := mPut r.2.2.2.2.1 hl v
  exact ⟨g1, e1, r.P f1 m1 (by_app r.2.2.2.2.2 (by_1 hv))⟩
theorem rI.sp {h g0 g : HS} {D : List Int} (r : rI h g0 D g) (hl : D.length < 2000) : ∃ g1, fX6_blank g = some g1 ∧ rI h g0 (spc D) g1 := by
  obtain ⟨g1, e1, m1, f1⟩ := mBlank r.2.2.2.2.1 r.2.2.2.2.2 hl
  exact ⟨g1, e1, r.P f1 m1 (spc_by r.2.2.2.2.2)⟩
theorem rI.set {h g0 g : HS} {D : List Int} (w : Hd (Psi h)) (r : rI h g0 D g) {n : Int} (hn : 0 ≤ n ∧ n < h 9 8) : ∃ g1, fX6_set n g = some g1 ∧ rI h g0 D g1 ∧ (∀ s : Int, 0 ≤ s → s < 64 → g1 35 s = bd h n s) ∧ (∀ a : Nat, a ≠ 35 → a ≠ 40 → g1 a = g a) := by
  obtain ⟨g1, e1, e2, e3⟩ := set_at w.o (h6 := g) (r.c (by decide)) (r.c (by decide)) hn.1 hn.2
  refine ⟨g1, e1, ⟨fun a b ha hs1 h35 => ?_, fun a ha => by rw [e2 a (by omega) (by omega), r.2.1 a ha], by rw [e2 50 (by decide) (by decide), r.2.2.1], by rw [e2 30 (by decide) (by decide), r.2.2.2.1], ⟨by rw [e2 30 (by decide) (by decide)]; exact r.2.2.2.2.1.1, by rw [e2 30 (by decide) (by decide), e2 41 (by decide) (by decide)]; exact r.2.2.2.2.1.2⟩, r.2.2.2.2.2⟩, e3, e2⟩
  rw [e2 a h35 (fun k => hs1 (Or.inl (by omega)))]
  exact r.1 a b ha hs1 h35
theorem rI.node {h g0 g : HS} {D : List Int} (w : Hd (Psi h)) (r : rI h g0 D g) {n : Int} (hn : 0 ≤ n ∧ n < h 9 8) {j : Nat} (hj : (j : Int) < h 15 n) (hl : D.length + 8 ≤ 2000) : ∃ g1, fX6_putNode (kid h n j) g = some g1 ∧ rI h g0 (mvt h n j D) g1 := by
  obtain ⟨m1, m2, m3, m4, m5, m6⟩ := kidM w hn hj
  have hk : 0 ≤ kid h n j ∧ kid h n j < h 9 8 := by omega
  obtain ⟨S, s1, s2, s3, -⟩ := r.set w hn
  obtain ⟨B, b1, bm, bf⟩ := mBlank s2.2.2.2.2.1 s2.2.2.2.2.2 (by omega)
  have b2 : rI h g0 (spc D) B := s2.P bf bm (spc_by s2.2.2.2.2.2)
  have sl := spc_len (D := D)
  have ms0 := w.o.ms (zqm.rf (h := h))
  have ms : mSt 35 (kOf h) (bd h n) B := ⟨fun s s0 s1 => by rw [bf.1 35 (by decide) (by decide) (by decide)]; exact s3 s s0 s1, fun i i0 i1 => by rw [b2.c (a := 32) (by decide)]; exact ms0.2.1 i i0 i1, fun i j i0 i1 j0 j1 => by rw [b2.c (a := 33) (by decide)]; exact ms0.2.2 i j i0 i1 j0 j1⟩
  obtain ⟨kb1, kb2⟩ := kidB w hn hj
  obtain ⟨G, g1, gm, gf⟩ := mMove (gdN w hn) m4 m5 m6 (L := h 2) (w := spc D) (by omega) ms bm (by rw [b2.c (a := 31) (by decide)]; exact kb2)
  have q1 := (pX6_get w.o (g := g) (r.c (by decide)) hk).1
  have q2 := (pX6_get w.o (g := B) (b2.c (by decide)) hk).2
  unfold fX6_putNode
  rw [q1, Option.bind_some, m2, s1, Option.bind_some, b1, Option.bind_some, q2.1, Option.bind_some, q2.2.1, Option.bind_some, g1, Option.bind_some]
  exact ⟨G, rfl, b2.P gf gm (by_app (spc_by r.2.2.2.2.2) kb1)⟩
/-- all that is below a node -/
theorem rwalk {h g0 : HS} (w : Hd (Psi h)) : ∀ (f : Nat) (n : Int) (D : List Int) (g : HS) (d nf : Nat), 0 ≤ n ∧ n < h 9 8 → h 9 8 ≤ n + f → h 9 8 ≤ n + d → h 9 8 ≤ n + nf → rI h g0 D g → D.length + 10 * gN h f n ≤ 2000 → ∃ g1, fX6_putBelow_L2 (fun a hh => fX6_putBelow d a hh) nf n g = some g1 ∧ rI h g0 (gT h f n D) g1
  | 0, n, D, g, d, nf, hn, hf, hd, hnf, r, hl => by omega
  | f + 1, n, D, g, d, 0, hn, hf, hd, hnf, r, hl => by omega
  | f + 1, n, D, g, d, nf + 1, hn, hf, hd, hnf, r, hl => by
    have gk := (w.o.R.g n hn.1 hn.2).2.2.2.2
    have nn := w.o.R.n
    have q4 : ∀ (D : List Int) (g : HS), rI h g0 D g → fX6_get n 4 g = some (h 15 n) := fun D g r => (pX6_get w.o (g := g) (r.c (by decide)) hn).2.2.2.2
    have wk := wr_of (z := h 15 n) (by omega) (by omega)
    rw [fX6_putBelow_L2]
    rw [q4 D g r, Option.bind_some, wk]
    unfold gT
    by_cases k0 : h 15 n ≤ 0
    · rw [if_pos k0, if_pos k0]
      exact ⟨g, rfl, r⟩
    · obtain ⟨m1, m2, m3, -⟩ := kidM w hn (j := 0) (show ((0 : Nat) : Int) < h 15 n by omega)
      rw [gN_s (by omega)] at hl
      obtain ⟨A, a1, a2⟩ := r.node w hn (j := 0) (by omega) (by omega)
      have l1 := mvt_len (h := h) (n := n) (j := 0) (D := D)
      have c0 : ∀ (D : List Int) (g : HS), rI h g0 D g → ∀ j : Nat, (j : Int) < h 15 n → fX6_continuation0 n (j : Int) g = some (kid h n j) := fun D g r j hj => pX6_cont0 w.o (g := g) (r.c (by decide)) hn hj
      have inner : ∀ (m j : Nat) (D : List Int) (g : HS) (nf2 : Nat), (j : Int) + m = h 15 n → 1 ≤ j → m < nf2 → rI h g0 D g → D.length + 10 * (gN h f (kid h n 0) + gCn h (gN h f) n m j) ≤ 2000 → ∃ g1, fX6_putBelow_L30 (fun a hh => fX6_putBelow d a hh) (fun a0 hh => fX6_putBelow_L2 (fun a hh => fX6_putBelow d a hh) nf a0 hh) nf2 n (j : Int) g = some g1 ∧ rI h g0 (gT h f (kid h n 0) (gV h (gT h f) n m j D)) g1 := by
        intro m
        induction m with
        | zero =>
          intro j D g nf2 hj j1 hm r hl
          obtain ⟨nf2, rfl⟩ : ∃ x, nf2 = x + 1 := ⟨nf2 - 1, by omega⟩
          have ez : gCn h (gN h f) n 0 j = 0 := rfl
          rw [ez, Nat.add_zero] at hl
          obtain ⟨G, e1, e2⟩ := rwalk w f (kid h n 0) D g d nf (by omega) (by omega) (by omega) (by omega) r hl
          rw [fX6_putBelow_L30]
          unfold fX6_putBelow_b89
          rw [q4 D g r, Option.bind_some, wk, wr_of (z := (j : Int)) (by omega) (by omega), if_pos (by omega)]
          have cc := c0 D g r 0 (by omega)
          rw [show ((0 : Nat) : Int) = 0 from rfl] at cc
          rw [cc, Option.bind_some]
          exact ⟨G, e1, e2⟩
        | succ m ih =>
          intro j D g nf2 hj j1 hm r hl
          obtain ⟨nf2, rfl⟩ : ∃ x, nf2 = x + 1 := ⟨nf2 - 1, by omega⟩
          have ez : gCn h (gN h f) n (m + 1) j = 1 + gN h f (kid h n j) + gCn h (gN h f) n m (j + 1) := rfl
          rw [ez] at hl
          obtain ⟨p1, p2, p3, -⟩ := kidM w hn (j := j) (by omega)
          obtain ⟨d2, rfl⟩ : ∃ x, d = x + 1 := ⟨d - 1, by omega⟩
          have sl := spc_len (D := D)
          obtain ⟨S, s1, s2⟩ := r.sp (by omega)
          obtain ⟨P, t1, t2⟩ := s2.put (v := 40) (by omega) (by omega)
          have l2 := mvt_len40 (h := h) (n := n) (j := j) (D := D)
          obtain ⟨Q, u1, u2⟩ := t2.node w hn (j := j) (by omega) (by rw [List.length_append]; simp only [List.length_cons, List.length_nil]; omega)
          obtain ⟨B, b1, b2⟩ := rwalk w f (kid h n j) _ Q d2 zF (by omega) (by omega) (by omega) (by unfold zF; omega) u2 (by omega)
          have l3 := gT_len (h := h) f (kid h n j) (mvt h n j (spc D ++ [40]))
          obtain ⟨E, v1, v2⟩ := b2.put (v := 41) (by omega) (by omega)
          obtain ⟨G, e1, e2⟩ := ih (j + 1) _ E nf2 (by omega) (by omega) (by omega) v2 (by rw [List.length_append]; simp only [List.length_cons, List.length_nil]; omega)
          refine ⟨G, ?_, e2⟩
          have ekr : fX6_putBelow (d2 + 1) (kid h n j) Q = some B := b1
          rw [fX6_putBelow_L30]
          rw [q4 D g r, Option.bind_some, wk, wr_of (z := (j : Int)) (by omega) (by omega), if_neg (by omega), r.2.2.2.2.1.1, if_pos wr_0, s1, Option.bind_some, t1, Option.bind_some, c0 _ P t2 j (by omega), Option.bind_some, u1, Option.bind_some, c0 _ Q u2 j (by omega), Option.bind_some, ekr, Option.bind_some, v1, Option.bind_some, show (j : Int) + 1 = ((j + 1 : Nat) : Int) by omega]
          exact e1
      obtain ⟨G, e1, e2⟩ := inner ((h 15 n).toNat - 1) 1 (mvt h n 0 D) A zF (by omega) (Nat.le_refl _) (by unfold zF; omega) a2 (by omega)
      have cc := c0 D g r 0 (by omega)
      rw [show ((0 : Nat) : Int) = 0 from rfl] at cc
      rw [if_neg k0, if_neg k0, r.2.2.2.2.1.1, if_pos wr_0, cc, Option.bind_some, a1, Option.bind_some]
      exact ⟨G, e1, e2⟩
end ZGREF
