section ZWALK
/-! the class walks along the tree -/
def h23 (h : HS) (v : Int → Int) : HS := fun a => if a = 23 then v else h a
theorem h23_ne {h : HS} {v : Int → Int} {a : Nat} (ha : a ≠ 23) : h23 h v a = h a := by
  unfold h23
  rw [if_neg ha]
theorem h23_sq {h : HS} {v : Int → Int} : zsq (h23 h v) h := fun a b hn => by rw [h23_ne (fun e => hn (Or.inl (by omega)))]
theorem h23_id {h : HS} : h23 h (h 23) = h := by
  funext a
  unfold h23
  by_cases e : a = 23
  · rw [if_pos e, e]
  · rw [if_neg e]
/-- the class's board and present node are those of node p, all else is as it was -/
def atN (h : HS) (p : Int) : HS := fun a => if a = 8 then (fun s => if 0 ≤ s ∧ s < 64 then bd h p s else h 8 s) else if a = 0 then (fun k => if k = 8 then p else h 0 k) else h a
theorem atN_ne {h : HS} {p : Int} {a : Nat} (h8 : a ≠ 8) (h0 : a ≠ 0) : atN h p a = h a := by
  unfold atN
  rw [if_neg h8, if_neg h0]
theorem atN_08 {h : HS} {p : Int} : atN h p 0 8 = p := by
  unfold atN
  rw [if_neg (by decide), if_pos rfl, if_pos rfl]
theorem atN_0 {h : HS} {p k : Int} (hk : k ≠ 8) : atN h p 0 k = h 0 k := by
  unfold atN
  rw [if_neg (by decide), if_pos rfl, if_neg hk]
theorem atN_8 {h : HS} {p s : Int} (hs1 : 0 ≤ s ∧ s < 64) : atN h p 8 s = bd h p s := by
  unfold atN
  rw [if_pos rfl, if_pos hs1]
theorem atN_8o {h : HS} {p s : Int} (hs1 : ¬ (0 ≤ s ∧ s < 64)) : atN h p 8 s = h 8 s := by
  unfold atN
  rw [if_pos rfl, if_neg hs1]
theorem atN_self {h : HS} (w : PsiC h) : atN h (h 0 8) = h := by
  funext a b
  by_cases h8 : a = 8
  · subst h8
    by_cases hb : 0 ≤ b ∧ b < 64
    · rw [atN_8 hb, w.P.b b hb.1 hb.2]
    · rw [atN_8o hb]
  · by_cases h0 : a = 0
    · subst h0
      by_cases hb : b = 8
      · rw [hb, atN_08]
      · rw [atN_0 hb]
    · rw [atN_ne h8 h0]
theorem atN_row {p q d : Int} {h : HS} {a : Nat} (hR : PcR h) (h1 : 0 ≤ p ∧ p < h 9 8) (ha8 : a ≠ 8) (ha0 : a ≠ 0) : ((fX4_has p (atN h q)).bind fun r1 => if wr r1 = 0 then some d else if (0 : Int) ≤ p ∧ p < 200 then some (atN h q a p) else none) = some (h a p) := by
  have n := hR.n
  have e9 : atN h q 9 8 = h 9 8 := by rw [atN_ne (by decide) (by decide)]
  rw [pX4_row (by unfold zr; omega) (by rw [e9]; exact n) (by rw [e9]; exact h1), atN_ne ha8 ha0]
theorem stepUp_at {h : HS} (w : PsiC h) {p : Int} (p1 : 1 ≤ p) (p2 : p < h 9 8) : fX5_stepUp (atN h p) = some (atN h (h 10 p)) := by
  obtain ⟨a1, a2, a3, a4, a5, a6⟩ := w.P.t p p1 p2
  have n := w.R.n
  have bs := w.P.bs w.R p1 p2
  have hp : 0 ≤ p ∧ p < h 9 8 := ⟨by omega, p2⟩
  unfold fX5_stepUp fX4_from fX4_to fX4_taken fX0_takeBack fX4_above
  rw [atN_08, wr_of (z := p) (by omega) (by omega), if_neg (by omega), atN_row w.R hp (by decide) (by decide), atN_row w.R hp (by decide) (by decide), atN_row w.R hp (by decide) (by decide), Option.bind_some, Option.bind_some, Option.bind_some, fX5_isSq (by unfold zr; omega), fX5_isSq (by unfold zr; omega), Option.bind_some, Option.bind_some, if_pos a3, if_pos a4, if_neg (show ¬ wr 1 = 0 by decide), if_neg (show ¬ wr 1 = 0 by decide)]
  simp only [if_pos a3, if_pos a4, Option.bind_some]
  obtain ⟨r4, er⟩ : ∃ r4, r4 = hs (hs (atN h p) 8 (h 11 p) (atN h p 8 (h 12 p))) 8 (h 12 p) (h 13 p) := ⟨_, rfl⟩
  rw [← er]
  have ne : ∀ a, a ≠ 8 → r4 a = atN h p a := fun a ha => by rw [er, hs_ne _ _ _ ha, hs_ne _ _ _ ha]
  have e08 : r4 0 8 = p := by rw [ne 0 (by decide), atN_08]
  have e9 : r4 9 8 = h 9 8 := by rw [ne 9 (by decide), atN_ne (by decide) (by decide)]
  rw [e08, pX4_row (a := 10) (by unfold zr; omega) (by rw [e9]; exact n) (by rw [e9]; exact hp), Option.bind_some, ne 10 (by decide), atN_ne (by decide) (by decide)]
  congr 1
  funext a b
  by_cases h8 : a = 8
  · subst h8
    rw [hs_ne _ _ _ (by decide), er, hs_at, if_pos rfl]
    by_cases e1 : b = h 12 p
    · rw [if_pos e1, e1, atN_8 a4, a6]
    · rw [if_neg e1, hs_at, if_pos rfl]
      by_cases e2 : b = h 11 p
      · rw [if_pos e2, e2, atN_8 a3, atN_8 a4, bs]
        unfold mv
        rw [if_neg (fun e => e1 (by rw [e2, e])), if_pos rfl]
      · rw [if_neg e2]
        by_cases hb : 0 ≤ b ∧ b < 64
        · rw [atN_8 hb, atN_8 hb, bs]
          unfold mv
          rw [if_neg e2, if_neg e1]
        · rw [atN_8o hb, atN_8o hb]
  · by_cases h0 : a = 0
    · subst h0
      rw [hs_at, if_pos rfl]
      by_cases hb : b = 8
      · rw [if_pos hb, hb, atN_08]
      · rw [if_neg hb, ne 0 (by decide), atN_0 hb, atN_0 hb]
    · rw [hs_ne _ _ _ h0, ne a h8, atN_ne h8 h0, atN_ne h8 h0]
theorem stepDown_at {h : HS} (w : PsiC h) {p : Int} (p1 : 1 ≤ p) (p2 : p < h 9 8) : fX5_stepDown p (atN h (h 10 p)) = some (atN h p) := by
  obtain ⟨a1, a2, a3, a4, a5, a6⟩ := w.P.t p p1 p2
  have n := w.R.n
  have bs := w.P.bs w.R p1 p2
  have hp : 0 ≤ p ∧ p < h 9 8 := ⟨by omega, p2⟩
  unfold fX5_stepDown fX4_from fX4_to
  rw [atN_row w.R hp (by decide) (by decide), atN_row w.R hp (by decide) (by decide), Option.bind_some, Option.bind_some, ucX0_move a3 a4, Option.bind_some]
  unfold fX4_keepTaken
  have e9 : mvC (h 11 p) (h 12 p) (atN h (h 10 p)) 9 8 = h 9 8 := by rw [mvC_at (by decide), atN_ne (by decide) (by decide)]
  rw [pX4_has (by unfold zr; omega) (by simp only [e9]; exact n), if_pos (by simp only [e9]; exact hp), Option.bind_some, if_neg (show ¬ wr 1 = 0 by decide), if_pos (by omega), Option.bind_some]
  congr 1
  funext a b
  show hs (hs (mvC (h 11 p) (h 12 p) (atN h (h 10 p))) 13 p (atN h (h 10 p) 8 (h 12 p))) 0 8 p a b = _
  by_cases h8 : a = 8
  · subst h8
    rw [hs_ne _ _ _ (by decide), hs_ne _ _ _ (by decide), mvC_8]
    by_cases hb : 0 ≤ b ∧ b < 64
    · rw [atN_8 hb, bs]
      unfold mv
      rw [atN_8 a3]
      by_cases e1 : b = h 11 p
      · rw [if_pos e1, if_pos e1]
      · rw [if_neg e1, if_neg e1]
        by_cases e2 : b = h 12 p
        · rw [if_pos e2, if_pos e2]
        · rw [if_neg e2, if_neg e2, atN_8 hb]
    · rw [atN_8o hb]
      unfold mv
      rw [if_neg (by omega), if_neg (by omega), atN_8o hb]
  · by_cases h0 : a = 0
    · subst h0
      rw [hs_at, if_pos rfl]
      by_cases hb : b = 8
      · rw [if_pos hb, hb, atN_08]
      · rw [if_neg hb, hs_ne _ _ _ (by decide), mvC_at (by decide), atN_0 hb, atN_0 hb]
    · rw [hs_ne _ _ _ h0]
      by_cases h13 : a = 13
      · subst h13
        rw [hs_at, if_pos rfl]
        by_cases hb : b = p
        · rw [if_pos hb, atN_8 a4, atN_ne (by decide) (by decide), hb, a6]
        · rw [if_neg hb, mvC_at (by decide), atN_ne (by decide) (by decide), atN_ne (by decide) (by decide)]
      · rw [hs_ne _ _ _ h13, mvC_at h8, atN_ne h8 h0, atN_ne h8 h0]
def anc (h : HS) : Nat → Int → Int
  | 0, p => p
  | k + 1, p => h 10 (anc h k p)
theorem anc_in {h : HS} (w : PsiC h) {p : Int} (p0 : 0 ≤ p) (p1 : p < h 9 8) : ∀ k : Nat, (k : Int) ≤ h 14 p → (0 ≤ anc h k p ∧ anc h k p < h 9 8) ∧ h 14 (anc h k p) = h 14 p - k
  | 0, hk => ⟨⟨p0, p1⟩, by show h 14 p = _; omega⟩
  | k + 1, hk => by
    obtain ⟨⟨i1, i2⟩, i3⟩ := anc_in w p0 p1 k (by omega)
    have hq : 1 ≤ anc h k p := by
      rcases (show anc h k p = 0 ∨ 1 ≤ anc h k p by omega) with e | e
      · rw [e, w.P.z.2.2.2] at i3; omega
      · exact e
    obtain ⟨a1, a2, -⟩ := w.P.t _ hq i2
    show (0 ≤ h 10 (anc h k p) ∧ h 10 (anc h k p) < h 9 8) ∧ h 14 (h 10 (anc h k p)) = _
    omega
theorem anc_pos {h : HS} (w : PsiC h) {p : Int} (p0 : 0 ≤ p) (p1 : p < h 9 8) {k : Nat} (hk : (k : Int) < h 14 p) : 1 ≤ anc h k p := by
  obtain ⟨⟨i1, i2⟩, i3⟩ := anc_in w p0 p1 k (by omega)
  rcases (show anc h k p = 0 ∨ 1 ≤ anc h k p by omega) with e | e
  · rw [e, w.P.z.2.2.2] at i3; omega
  · exact e
theorem anc_end {h : HS} (w : PsiC h) {p : Int} (p0 : 0 ≤ p) (p1 : p < h 9 8) {k : Nat} (hk : (k : Int) = h 14 p) : anc h k p = 0 := by
  obtain ⟨⟨i1, i2⟩, i3⟩ := anc_in w p0 p1 k (by omega)
  rcases (show anc h k p = 0 ∨ 1 ≤ anc h k p by omega) with e | e
  · exact e
  · obtain ⟨a1, a2, -⟩ := w.P.t _ e i2
    have d := w.P.dp w.R _ a1.1 (by omega)
    omega
theorem visitUp {h : HS} (w : PsiC h) {x : Int} : ∀ (nf d : Nat) (q : Int), 0 ≤ q → q < h 9 8 → h 14 q = d → d < nf → fX5_visit_L12 nf x (d : Int) (atN h q) = (fX4_depth x (atN h 0)).bind fun r3 => fX5_visit_L40 zF r3 x 0 (atN h 0)
  | 0, d, q, q0, q1, e, hd => by omega
  | nf + 1, d, q, q0, q1, e, hd => by
    have dr := w.P.dp w.R q q0 q1
    rw [fX5_visit_L12]
    rw [wr_of (z := (d : Int)) (by omega) (by omega)]
    cases d with
    | zero =>
      have eq : q = 0 := by
        rcases (show q = 0 ∨ 1 ≤ q by omega) with k | k
        · exact k
        · obtain ⟨a1, a2, -⟩ := w.P.t q k q1
          have d1 := w.P.dp w.R _ a1.1 (by omega)
          omega
      rw [if_pos (by omega), eq]
    | succ d =>
      have q2 : 1 ≤ q := by
        rcases (show q = 0 ∨ 1 ≤ q by omega) with k | k
        · rw [k, w.P.z.2.2.2] at e; omega
        · exact k
      obtain ⟨a1, a2, -⟩ := w.P.t q q2 q1
      rw [if_neg (by omega), stepUp_at w q2 q1, Option.bind_some, show ((d + 1 : Nat) : Int) + -1 = (d : Int) by omega]
      exact visitUp w nf d (h 10 q) a1.1 (by omega) (by omega) (by omega)
theorem atN_h23 {h : HS} {v : Int → Int} {q k x : Int} : hs (atN (h23 h v) q) 23 k x = atN (h23 h (fun i => if i = k then x else v i)) q := by
  have eb : ∀ u : Int → Int, bd (h23 h u) = bd h := fun u => bd_sq h23_sq
  funext a b
  by_cases h23a : a = 23
  · subst h23a
    rw [hs_at, if_pos rfl, atN_ne (by decide) (by decide), atN_ne (by decide) (by decide)]
    rfl
  · rw [hs_ne _ _ _ h23a]
    unfold atN
    rw [eb, eb, h23_ne h23a, h23_ne h23a]
    rfl
theorem visitPath {h : HS} (w : PsiC h) {p : Int} (p0 : 0 ≤ p) (p1 : p < h 9 8) {len : Nat} (hl : h 14 p = len) : ∀ (nf k : Nat) (v : Int → Int), (∀ i : Nat, i < k → v i = anc h i p) → k ≤ len → len - k < nf → ∃ v2, fX5_visit_L40 nf (len : Int) (anc h k p) (k : Int) (atN (h23 h v) 0) = fX5_visit_L92 zF ((len : Int) - 1) (atN (h23 h v2) 0) ∧ ∀ i : Nat, i < len → v2 i = anc h i p
  | 0, k, v, hv, h1, h2 => by omega
  | nf + 1, k, v, hv, h1, h2 => by
    have dr := w.P.dp w.R p p0 p1
    rw [fX5_visit_L40]
    unfold fX5_visit_b79
    rw [wr_of (z := (len : Int)) (by omega) (by omega), wr_of (z := (k : Int)) (by omega) (by omega)]
    have ez : zmin (len : Int) 200 = len := by
      unfold zmin
      rw [wr_of (z := (len : Int)) (by omega) (by omega), wr_of (z := (200 : Int)) (by omega) (by omega), if_neg (by omega)]
    rw [ez]
    by_cases hk : (len : Int) ≤ (k : Int)
    · rw [if_pos hk]
      exact ⟨v, rfl, fun i hi => hv i (by omega)⟩
    · obtain ⟨⟨i1, i2⟩, i3⟩ := anc_in w p0 p1 k (by omega)
      rw [if_neg hk, if_neg (by omega), if_pos (by omega), atN_h23]
      have w2 : PsiC (h23 h (fun i => if i = (k : Int) then anc h k p else v i)) := w.sq h23_sq.qc
      have ea : fX4_above (anc h k p) (atN (h23 h (fun i => if i = (k : Int) then anc h k p else v i)) 0) = some (anc h (k + 1) p) := by
        unfold fX4_above
        rw [atN_row w2.R (by rw [h23_ne (by decide)]; exact ⟨i1, i2⟩) (by decide) (by decide), h23_ne (by decide)]
        rfl
      rw [ea, Option.bind_some, show (k : Int) + 1 = ((k + 1 : Nat) : Int) by omega]
      refine visitPath w p0 p1 hl nf (k + 1) _ (fun i hi => ?_) (by omega) (by omega)
      by_cases e : i = k
      · subst e
        rw [if_pos rfl]
      · rw [if_neg (by omega)]
        exact hv i (by omega)
theorem visitDown {h : HS} (w : PsiC h) {p : Int} (p0 : 0 ≤ p) (p1 : p < h 9 8) {v : Int → Int} : ∀ (nf j : Nat), (j : Int) ≤ h 14 p → (∀ i : Nat, i < j → v i = anc h i p) → j < nf → fX5_visit_L92 nf ((j : Int) - 1) (atN (h23 h v) (anc h j p)) = some (atN (h23 h v) p)
  | 0, j, h1, h2, h3 => by omega
  | nf + 1, j, h1, h2, h3 => by
    have dr := w.P.dp w.R p p0 p1
    rw [fX5_visit_L92]
    rw [wr_of (z := (j : Int) - 1) (by omega) (by omega)]
    cases j with
    | zero =>
      rw [if_pos (by omega)]
      rfl
    | succ j =>
      obtain ⟨⟨i1, i2⟩, i3⟩ := anc_in w p0 p1 j (by omega)
      have w2 : PsiC (h23 h v) := w.sq h23_sq.qc
      have q1 := anc_pos w p0 p1 (k := j) (by omega)
      have e23 : atN (h23 h v) (anc h (j + 1) p) 23 ((j : Nat) : Int) = anc h j p := by
        rw [atN_ne (by decide) (by decide)]
        exact h2 j (by omega)
      have es : fX5_stepDown (anc h j p) (atN (h23 h v) (anc h (j + 1) p)) = some (atN (h23 h v) (anc h j p)) := by
        have e := stepDown_at w2 (p := anc h j p) q1 (by rw [h23_ne (by decide)]; exact i2)
        rw [h23_ne (by decide)] at e
        exact e
      rw [if_neg (by omega), if_pos (by omega), show ((j + 1 : Nat) : Int) - 1 = (j : Int) by omega, e23, es, Option.bind_some, show (j : Int) + -1 = (j : Int) - 1 by omega]
      exact visitDown w p0 p1 nf j (by omega) (fun i hi => h2 i (by omega)) (by omega)
theorem visit_at {h : HS} (w : PsiC h) {p q : Int} (p0 : 0 ≤ p) (p1 : p < h 9 8) (q0 : 0 ≤ q) (q1 : q < h 9 8) : ∃ v, fX5_visit p (atN h q) = some (atN (h23 h v) p) := by
  have dp := w.P.dp w.R p p0 p1
  have dq := w.P.dp w.R q q0 q1
  have n := w.R.n
  obtain ⟨len, hl⟩ : ∃ len : Nat, h 14 p = len := ⟨(h 14 p).toNat, by omega⟩
  obtain ⟨d, hd⟩ : ∃ d : Nat, h 14 q = d := ⟨(h 14 q).toNat, by omega⟩
  have e1 := visitUp w (x := p) zF d q q0 q1 hd (by unfold zF; omega)
  obtain ⟨v2, e2, e3⟩ := visitPath w p0 p1 hl zF 0 (h 23) (fun i hi => by omega) (by omega) (by unfold zF; omega)
  have e4 := visitDown w p0 p1 (v := v2) zF len (by omega) e3 (by unfold zF; omega)
  rw [anc_end w p0 p1 (k := len) (by omega)] at e4
  refine ⟨v2, ?_⟩
  unfold fX5_visit
  have ed : ∀ y : Int, ∀ x : Int, 0 ≤ x ∧ x < h 9 8 → fX4_depth x (atN h y) = some (h 14 x) := fun y x hx => by
    unfold fX4_depth
    exact atN_row w.R hx (by decide) (by decide)
  rw [atN_08, ed q q ⟨q0, q1⟩, Option.bind_some, hd, e1, ed 0 p ⟨p0, p1⟩, Option.bind_some, hl, ← e4, ← e2, h23_id]
  rfl
end ZWALK
