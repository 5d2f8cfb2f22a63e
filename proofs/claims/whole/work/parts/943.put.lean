section ZPUT
/-! the reference writes a move -/
abbrev MT (w : List Int) (g : HS) : Prop := g 30 24 = 0 ∧ txt (g 30 23) (g 41) w
abbrev frP (g1 g : HS) : Prop := (∀ a : Nat, a ≠ 36 → a ≠ 41 → a ≠ 30 → g1 a = g a) ∧ (∀ b : Int, b ≠ 23 → b ≠ 24 → g1 30 b = g 30 b)
theorem frP_rf {g : HS} : frP g g := ⟨fun _ _ _ _ => rfl, fun _ _ _ => rfl⟩
theorem frP_tr {g2 g1 g : HS} (a : frP g2 g1) (b : frP g1 g) : frP g2 g := ⟨fun i h1 h2 h3 => by rw [a.1 i h1 h2 h3, b.1 i h1 h2 h3], fun i h1 h2 => by rw [a.2 i h1 h2, b.2 i h1 h2]⟩
theorem fr36.P {g1 g : HS} (f : fr36 g1 g) : frP g1 g := ⟨fun a h1 _ _ => f a h1, fun b _ _ => by rw [f 30 (by decide)]⟩
theorem MT_fr {w : List Int} {g1 g : HS} (m : MT w g) (f : fr36 g1 g) : MT w g1 := ⟨by rw [f 30 (by decide)]; exact m.1, by rw [f 30 (by decide), f 41 (by decide)]; exact m.2⟩
theorem mSt_P {K : KT} {b : Int → Int} {g g1 : HS} (w : mSt 35 K b g) (f : frP g1 g) : mSt 35 K b g1 :=
  ⟨fun s s0 s1 => by rw [f.1 35 (by decide) (by decide) (by decide)]; exact w.1 s s0 s1, fun i i0 i1 => by rw [f.1 32 (by decide) (by decide) (by decide)]; exact w.2.1 i i0 i1, fun i j i0 i1 j0 j1 => by rw [f.1 33 (by decide) (by decide) (by decide)]; exact w.2.2 i j i0 i1 j0 j1⟩
theorem mPut {w : List Int} {g : HS} (m : MT w g) (hl : w.length < 2000) (v : Int) : ∃ g1, fX6_put_ v g = some g1 ∧ MT (w ++ [v]) g1 ∧ frP g1 g := by
  obtain ⟨m1, m2⟩ := m
  have sz := m2.1
  have z24 : hs g 30 24 0 30 24 = 0 := hs_self
  have z23 : hs g 30 24 0 30 23 = g 30 23 := by rw [hs_at, if_pos rfl, if_neg (by decide)]
  have z23b : hs (hs g 30 24 0) 41 (g 30 23) v 30 23 = g 30 23 := by rw [hs_ne _ _ _ (by decide), z23]
  refine ⟨hs (hs (hs g 30 24 0) 41 (g 30 23) v) 30 23 (g 30 23 + 1), ?_, ⟨?_, ?_⟩, ⟨fun a h1 h2 h3 => by rw [hs_ne _ _ _ h3, hs_ne _ _ _ h2, hs_ne _ _ _ h3], fun b h1 h2 => by rw [hs_at, if_pos rfl, if_neg h1, hs_ne _ _ _ (by decide), hs_at, if_pos rfl, if_neg h2]⟩⟩
  · unfold fX6_put_ fX6_put__b18 fX6_put__b23
    rw [m1, if_pos wr_0, wr_of (z := g 30 23) (by omega) (by omega), if_neg (by omega), if_pos (Or.inl rfl), z24, if_pos wr_0, z23, if_pos (by omega), z23b]
  · rw [hs_at, if_pos rfl, if_neg (by decide), hs_ne _ _ _ (by decide), z24]
  · rw [hs_self, hs_ne _ _ _ (by decide)]
    refine txt_app m2 (fun i i0 i1 => ?_) ?_
    · rw [hs_at, if_pos rfl, if_neg (by omega), hs_ne _ _ _ (by decide)]
    · rw [hs_self]
theorem m202 {K : KT} {n : Int} {b : Int → Int} (g0 : gd K n b) {f t : Int} (hf : 0 ≤ f ∧ f < 64) (ht : 0 ≤ t ∧ t < 64) (hb : 0 ≤ b f) {w : List Int} {g : HS} (s : mSt 35 K b g) (m : MT w g) (hl : w.length + 3 ≤ 2000) : ∃ g1, fX6_putMove_b202 f t g = some g1 ∧ MT (w ++ tgt K b f t) g1 ∧ frP g1 g := by
  have t0 : 0 ≤ t ∧ t < 2147483648 := by omega
  have hsv := sgn_v (K := K) (b := b) (f := f) (t := t)
  obtain ⟨g1, e1, m1, f1⟩ := mPut m (by omega) (97 + t % 8)
  obtain ⟨g2, e2, m2, f2⟩ := mPut m1 (by rw [List.length_append]; simp only [List.length_cons, List.length_nil]; omega) (49 + t / 8)
  have f20 := frP_tr f2 f1
  obtain ⟨g3, e3, f3⟩ := umX6_sign g0 (mSt_P s f20) hf ht hb
  have m3 := MT_fr m2 f3
  have f30 := frP_tr f3.P f20
  unfold fX6_putMove_b202 tgt
  rw [if_pos t0, e1, Option.bind_some, if_pos t0, e2, Option.bind_some, e3, Option.bind_some]
  dsimp only
  rw [wr_of (z := sgn K b f t) (by omega) (by omega)]
  by_cases q : sgn K b f t = -1
  · rw [if_pos q, if_pos q, List.append_nil]
    refine ⟨g3, rfl, ?_, f30⟩
    rw [List.append_assoc] at m3
    exact m3
  · obtain ⟨g4, e4, m4, f4⟩ := mPut m3 (by rw [List.length_append, List.length_append]; simp only [List.length_cons, List.length_nil]; omega) (sgn K b f t)
    rw [if_neg q, if_neg q, e4, Option.bind_some]
    refine ⟨g4, rfl, ?_, frP_tr f4 f30⟩
    rw [List.append_assoc, List.append_assoc] at m4
    exact m4
theorem m186 {K : KT} {n : Int} {b : Int → Int} (g0 : gd K n b) {f t : Int} (hf : 0 ≤ f ∧ f < 64) (ht : 0 ≤ t ∧ t < 64) (hb : 0 ≤ b f) {w : List Int} {g : HS} (s : mSt 35 K b g) (m : MT w g) (hl : w.length + 4 ≤ 2000) : ∃ g1, fX6_putMove_b186 f t g = some g1 ∧ MT (w ++ ((if b t = -1 then [] else [120]) ++ tgt K b f t)) g1 ∧ frP g1 g := by
  have n0 := g0.1
  obtain ⟨v1, v2⟩ := g0.2.1 t ht.1 ht.2
  unfold fX6_putMove_b186
  rw [if_pos ht, s.1 t ht.1 ht.2, wr_of (z := b t) (by omega) (by omega)]
  by_cases q : b t = -1
  · rw [if_pos q, if_pos q, List.nil_append]
    exact m202 g0 hf ht hb s m (by omega)
  · obtain ⟨g1, e1, m1, f1⟩ := mPut m (by omega) 120
    obtain ⟨g2, e2, m2, f2⟩ := m202 g0 hf ht hb (mSt_P s f1) m1 (by rw [List.length_append]; simp only [List.length_cons, List.length_nil]; omega)
    rw [if_neg q, if_neg q, e1, Option.bind_some, e2]
    refine ⟨g2, rfl, ?_, frP_tr f2 f1⟩
    rw [List.append_assoc] at m2
    exact m2
theorem m165 {K : KT} {n : Int} {b : Int → Int} (g0 : gd K n b) {f t : Int} (hf : 0 ≤ f ∧ f < 64) (ht : 0 ≤ t ∧ t < 64) (hb : 0 ≤ b f) {w : List Int} {g : HS} (s : mSt 35 K b g) (m : MT w g) (hl : w.length + 5 ≤ 2000) {o sf : Bool} (hs1 : sf = true → o = true) : ∃ g1, fX6_putMove_b165 f t (b2i o) (b2i sf) g = some g1 ∧ MT (w ++ ((if sf = true then [49 + f / 8] else []) ++ ((if b t = -1 then [] else [120]) ++ tgt K b f t))) g1 ∧ frP g1 g := by
  have f0 : 0 ≤ f ∧ f < 2147483648 := by omega
  unfold fX6_putMove_b165
  cases sf
  · have e : (if wr (b2i o) = 0 then fX6_putMove_b186 f t g else if wr (b2i false) = 0 then fX6_putMove_b186 f t g else if 0 ≤ f ∧ f < 2147483648 then (fX6_put_ (49 + f / 8) g).bind fun r6 => fX6_putMove_b186 f t r6 else none) = fX6_putMove_b186 f t g := by
      rw [if_pos (b2i_0.mpr (rfl : false = false)), ite_self]
    rw [e, if_neg (by decide), List.nil_append]
    exact m186 g0 hf ht hb s m (by omega)
  · have ho := hs1 rfl
    subst ho
    obtain ⟨g1, e1, m1, f1⟩ := mPut m (by omega) (49 + f / 8)
    obtain ⟨g2, e2, m2, f2⟩ := m186 g0 hf ht hb (mSt_P s f1) m1 (by rw [List.length_append]; simp only [List.length_cons, List.length_nil]; omega)
    rw [if_neg (fun k => absurd (b2i_0.mp k) (by decide)), if_neg (fun k => absurd (b2i_0.mp k) (by decide)), if_pos f0, e1, Option.bind_some, e2, if_pos rfl]
    refine ⟨g2, rfl, ?_, frP_tr f2 f1⟩
    rw [List.append_assoc] at m2
    exact m2
theorem m154 {K : KT} {n : Int} {b : Int → Int} (g0 : gd K n b) {f t : Int} (hf : 0 ≤ f ∧ f < 64) (ht : 0 ≤ t ∧ t < 64) (hb : 0 ≤ b f) {w : List Int} {g : HS} (s : mSt 35 K b g) (m : MT w g) (hl : w.length + 6 ≤ 2000) {o sf : Bool} (hs1 : sf = true → o = true) : ∃ g1, fX6_putMove_b154 f t (b2i o) (b2i sf) g = some g1 ∧ MT (w ++ ([97 + f % 8] ++ ((if sf = true then [49 + f / 8] else []) ++ ((if b t = -1 then [] else [120]) ++ tgt K b f t)))) g1 ∧ frP g1 g := by
  have f0 : 0 ≤ f ∧ f < 2147483648 := by omega
  obtain ⟨g1, e1, m1, f1⟩ := mPut m (by omega) (97 + f % 8)
  obtain ⟨g2, e2, m2, f2⟩ := m165 g0 hf ht hb (mSt_P s f1) m1 (by rw [List.length_append]; simp only [List.length_cons, List.length_nil]; omega) hs1
  unfold fX6_putMove_b154
  rw [if_pos f0, e1, Option.bind_some, e2]
  refine ⟨g2, rfl, ?_, frP_tr f2 f1⟩
  rw [List.append_assoc] at m2
  exact m2
theorem mEnd {K : KT} {n : Int} {b : Int → Int} (g0 : gd K n b) {f t : Int} (hf : 0 ≤ f ∧ f < 64) (ht : 0 ≤ t ∧ t < 64) (hb : 0 ≤ b f) {w : List Int} {g : HS} (s : mSt 35 K b g) (m : MT w g) (hl : w.length + 6 ≤ 2000) {o sf sr : Bool} (hs1 : sf = true → o = true) : ∃ g1, (if wr (b2i o) = 0 then fX6_putMove_b165 f t (b2i o) (b2i sf) g else if wr (b2i sf) = 0 then fX6_putMove_b154 f t (b2i o) (b2i sf) g else if wr (b2i sr) = 0 then fX6_putMove_b165 f t (b2i o) (b2i sf) g else fX6_putMove_b154 f t (b2i o) (b2i sf) g) = some g1 ∧ MT (w ++ (org o sf sr f ++ ((if b t = -1 then [] else [120]) ++ tgt K b f t))) g1 ∧ frP g1 g := by
  have a := m165 g0 hf ht hb s m (by omega) hs1
  have c := m154 g0 hf ht hb s m hl hs1
  unfold org
  cases o
  · rw [if_pos (b2i_0.mpr (rfl : false = false))]
    rw [Bool.false_and, if_neg (show ¬ false = true by decide), List.nil_append]
    exact a
  · rw [if_neg (fun k => absurd (b2i_0.mp k) (by decide))]
    cases sf
    · rw [if_pos (b2i_0.mpr (rfl : false = false)), if_pos (show (true && (!false || sr)) = true by cases sr <;> rfl), List.append_assoc]
      exact c
    · rw [if_neg (fun k => absurd (b2i_0.mp k) (by decide))]
      cases sr
      · rw [if_pos (b2i_0.mpr (rfl : false = false)), if_neg (show ¬ (true && (!true || false)) = true by decide), List.nil_append]
        exact a
      · rw [if_neg (fun k => absurd (b2i_0.mp k) (by decide)), if_pos (show (true && (!true || true)) = true by decide), List.append_assoc]
        exact c
theorem mLoop {K : KT} {n : Int} {b : Int → Int} (g0 : gd K n b) {f t : Int} (hf : 0 ≤ f ∧ f < 64) (ht : 0 ≤ t ∧ t < 64) (hb : 0 ≤ b f) {w : List Int} (hl : w.length + 6 ≤ 2000) : ∀ (nf j : Nat) (o sf sr : Bool) (g : HS), mSt 35 K b g → MT w g → (sf = true → o = true) → j ≤ 64 → 64 - j < nf → ∃ g1, fX6_putMove_L31 nf f t (b f) (b2i o) (b2i sf) (b2i sr) (j : Int) g = some g1 ∧ MT (w ++ (org (o || exB (otP K b f t) (64 - j) j) (sf || exB (otF K b f t) (64 - j) j) (sr || exB (otR K b f t) (64 - j) j) f ++ ((if b t = -1 then [] else [120]) ++ tgt K b f t))) g1 ∧ frP g1 g
  | 0, j, o, sf, sr, g, s, m, hs1, h1, h2 => by omega
  | nf + 1, j, o, sf, sr, g, s, m, hs1, h1, h2 => by
    have n0 := g0.1
    rw [fX6_putMove_L31]
    unfold fX6_putMove_b133 fX6_putMove_b102 fX6_putMove_b107 fX6_putMove_b126 fX6_putMove_b131 fX6_putMove_b133
    rw [wr_of (z := (j : Int)) (by omega) (by omega), wr_of (z := f) (by omega) (by omega)]
    by_cases hj : (64 : Int) ≤ (j : Int)
    · rw [if_pos hj, exB_end (by omega), exB_end (by omega), exB_end (by omega), Bool.or_false, Bool.or_false, Bool.or_false]
      exact mEnd g0 hf ht hb s m hl hs1
    · obtain ⟨v1, v2⟩ := g0.2.1 (j : Int) (by omega) (by omega)
      obtain ⟨u1, u2⟩ := g0.2.1 f hf.1 hf.2
      have ih := fun o2 sf2 sr2 g2 (k1 : mSt 35 K b g2) (k2 : MT w g2) (k : sf2 = true → o2 = true) => mLoop g0 hf ht hb hl nf (j + 1) o2 sf2 sr2 g2 k1 k2 k (by omega) (by omega)
      have ej : (j : Int) + 1 = ((j + 1 : Nat) : Int) := by omega
      rw [if_neg hj, exB_64 (p := otP K b f t) (j := j) (by omega), exB_64 (p := otF K b f t) (j := j) (by omega), exB_64 (p := otR K b f t) (j := j) (by omega), ej]
      have skip : ∀ g2, fr36 g2 g → otP K b f t j = false → ∃ g1, fX6_putMove_L31 nf f t (b f) (b2i o) (b2i sf) (b2i sr) ((j + 1 : Nat) : Int) g2 = some g1 ∧ MT (w ++ (org (o || (otP K b f t j || exB (otP K b f t) (64 - (j + 1)) (j + 1))) (sf || (otF K b f t j || exB (otF K b f t) (64 - (j + 1)) (j + 1))) (sr || (otR K b f t j || exB (otR K b f t) (64 - (j + 1)) (j + 1))) f ++ ((if b t = -1 then [] else [120]) ++ tgt K b f t))) g1 ∧ frP g1 g := fun g2 fr e => by
        have e2 : otF K b f t j = false := by unfold otF; rw [e]; rfl
        have e3 : otR K b f t j = false := by unfold otR; rw [e]; rfl
        rw [e, e2, e3, Bool.false_or, Bool.false_or, Bool.false_or]
        obtain ⟨g1, a1, a2, a3⟩ := ih o sf sr g2 (mSt_fr s fr) (MT_fr m fr) hs1
        exact ⟨g1, a1, a2, frP_tr a3 fr.P⟩
      by_cases q1 : (j : Int) = f
      · rw [if_pos q1]
        exact skip g (fun _ _ => rfl) (by unfold otP; rw [decide_eq_false (fun k => k q1)]; rfl)
      · rw [if_neg q1, if_pos (by omega), s.1 (j : Int) (by omega) (by omega), wr_of (z := b j) (by omega) (by omega), wr_of (z := b f) (by omega) (by omega)]
        by_cases q2 : b j = b f
        · have hbj : 0 ≤ b j := by omega
          rw [if_pos q2, umX6_reaches g0 s (by omega) ht hbj, Option.bind_some]
          by_cases q3 : hit K b j t = true
          · obtain ⟨g2, e4, fr⟩ := mX6_legal g0 s (f := (j : Int)) (t := t) (by omega) ht hbj
            rw [if_pos q3, if_neg (show ¬ wr 1 = 0 by decide), e4, Option.bind_some]
            by_cases q4 : lgl K b j t = true
            · have e : otP K b f t j = true := by unfold otP; rw [decide_eq_true q1, decide_eq_true q2, q3, q4]; rfl
              have e2 : otF K b f t j = decide ((j : Int) % 8 = f % 8) := by unfold otF; rw [e]; rfl
              have e3 : otR K b f t j = decide ((j : Int) / 8 = f / 8) := by unfold otR; rw [e]; rfl
              obtain ⟨g1, a1, a2, a3⟩ := ih true (sf || otF K b f t j) (sr || otR K b f t j) g2 (mSt_fr s fr) (MT_fr m fr) (fun _ => rfl)
              rw [Bool.or_assoc, Bool.or_assoc, Bool.true_or] at a2
              have hj2 : 0 ≤ (j : Int) ∧ (j : Int) < 2147483648 := by omega
              have hf2 : 0 ≤ f ∧ f < 2147483648 := by omega
              simp only [if_pos q4, if_neg (show ¬ wr 1 = 0 by decide), if_pos hj2, if_pos hf2]
              rw [wr_of (z := (j : Int) % 8) (by omega) (by omega), wr_of (z := f % 8) (by omega) (by omega), wr_of (z := (j : Int) / 8) (by omega) (by omega), wr_of (z := f / 8) (by omega) (by omega), e, Bool.true_or, Bool.or_true]
              have b1 : b2i true = 1 := rfl
              have b0 : b2i false = 0 := rfl
              refine ⟨g1, ?_, a2, frP_tr a3 fr.P⟩
              rw [e2, e3] at a1
              rw [← a1]
              by_cases q5 : (j : Int) % 8 = f % 8
              · rw [if_pos q5, decide_eq_true q5, Bool.or_true]
                by_cases q6 : (j : Int) / 8 = f / 8
                · rw [if_pos q6, decide_eq_true q6, Bool.or_true]
                  rw [b1]
                  simp only [ite_self]
                · rw [if_neg q6, decide_eq_false q6, Bool.or_false, b1]
                  cases sf <;> cases sr <;> rfl
              · rw [if_neg q5, decide_eq_false q5, Bool.or_false]
                by_cases q6 : (j : Int) / 8 = f / 8
                · rw [decide_eq_true q6, Bool.or_true]
                  simp only [if_pos q6]
                  cases sf <;> cases sr <;> rfl
                · rw [decide_eq_false q6, Bool.or_false]
                  simp only [if_neg q6]
                  cases sf <;> cases sr <;> rfl
            · simp only [if_neg q4, if_pos wr_0]
              exact skip g2 fr (by unfold otP; rw [Bool.eq_false_iff.mpr q4, Bool.and_false, Bool.and_false, Bool.and_false])
          · rw [if_neg q3, if_pos wr_0]
            exact skip g (fun _ _ => rfl) (by unfold otP; rw [Bool.eq_false_iff.mpr q3, Bool.false_and, Bool.and_false, Bool.and_false])
        · rw [if_neg q2]
          exact skip g (fun _ _ => rfl) (by unfold otP; rw [decide_eq_false q2, Bool.false_and, Bool.and_false])
theorem mMove {K : KT} {n : Int} {b : Int → Int} (g0 : gd K n b) {f t : Int} (hf : 0 ≤ f ∧ f < 64) (ht : 0 ≤ t ∧ t < 64) (hb : 0 ≤ b f) {L : Int → Int} {w : List Int} (hl : w.length + 7 ≤ 2000) {g : HS} (s : mSt 35 K b g) (m : MT w g) (hL : g 31 (b f / 2) = L (b f / 2)) : ∃ g1, fX6_putMove f t g = some g1 ∧ MT (w ++ mvB K L b f t) g1 ∧ frP g1 g := by
  have n0 := g0.1
  obtain ⟨u1, u2⟩ := g0.2.1 f hf.1 hf.2
  obtain ⟨g1, e1, m1, f1⟩ := mPut m (by omega) (L (b f / 2))
  obtain ⟨g2, e2, m2, f2⟩ := mLoop g0 hf ht hb (w := w ++ [L (b f / 2)]) (by rw [List.length_append]; simp only [List.length_cons, List.length_nil]; omega) zF 0 false false false g1 (mSt_P s f1) m1 (fun k => absurd k (by decide)) (by omega) (by unfold zF; omega)
  rw [Bool.false_or, Bool.false_or, Bool.false_or, List.append_assoc] at m2
  unfold fX6_putMove
  rw [if_pos hf, s.1 f hf.1 hf.2, if_pos (by omega), if_pos (by omega), hL, e1, Option.bind_some]
  exact ⟨g2, e2, m2, frP_tr f2 f1⟩
end ZPUT
