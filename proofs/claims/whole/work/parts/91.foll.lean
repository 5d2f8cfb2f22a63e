section ZFOLL
/-! a move is followed: to its node, a new one if need be -/
theorem pX4_childC {p x : Int} {h : HS} (w : PsiC h) (h1 : 0 ≤ p ∧ p < h 9 8) (h2 : 0 ≤ x ∧ x < h 15 p) : fX4_child p x h = some (kid h p x.toNat) := by
  obtain ⟨g0, g1, g2, g3, g4⟩ := w.R.g p h1.1 h1.2
  have n := w.R.n
  unfold fX4_child
  rw [pX4_has (by unfold zr; omega) n, if_pos h1, Option.bind_some, if_neg (show ¬ wr 1 = 0 by decide), wr_of (z := x) (by omega) (by omega), if_neg (by omega), if_pos (by omega), wr_of (z := h 15 p) (by omega) (by omega), if_pos h2.2, if_pos (by omega)]
  have e := pX4_childL (h := h) (i := p) (K := x.toNat) n (by omega) (fun j hj => by
    obtain ⟨⟨a, b⟩, -⟩ := w.C.c p h1.1 h1.2 j (by omega)
    exact ⟨by omega, b⟩) zF 0 (Nat.zero_le _) (by unfold zF; omega)
  rw [Int.toNat_of_nonneg h2.1] at e
  exact e
theorem pX4_childN {p x : Int} {h : HS} (w : PsiC h) (h1 : 0 ≤ p ∧ p < h 9 8) (hx : zr x) (h2 : x < 0 ∨ h 15 p ≤ x) : fX4_child p x h = some (-1) := by
  obtain ⟨g0, g1, g2, g3, g4⟩ := w.R.g p h1.1 h1.2
  have n := w.R.n
  unfold fX4_child
  rw [pX4_has (by unfold zr; omega) n, if_pos h1, Option.bind_some, if_neg (show ¬ wr 1 = 0 by decide), wr_of hx.1 hx.2]
  by_cases hx0 : x < 0
  · rw [if_pos hx0]
  · rw [if_neg hx0, if_pos (show 0 ≤ p ∧ p < 200 by omega), wr_of (z := h 15 p) (by omega) (by omega), if_neg (by omega)]
theorem pX4_countC {p : Int} {h : HS} (w : PsiC h) (h1 : 0 ≤ p ∧ p < h 9 8) : fX4_childCount p h = some (h 15 p) := by
  have n := w.R.n
  unfold fX4_childCount
  exact pX4_row (by unfold zr; omega) n h1
def knF (h : HS) (i f t : Int) : Nat → Nat → Int
  | 0, _ => -1
  | m + 1, k => if h 11 (kid h i k) = f ∧ h 12 (kid h i k) = t then kid h i k else knF h i f t m (k + 1)
def knV (h : HS) (f t : Int) : Int := knF h (h 0 8) f t (h 15 (h 0 8)).toNat 0
theorem knF_rg {h : HS} {i f t : Int} : ∀ (m k : Nat), knF h i f t m k = -1 ∨ ∃ j, k ≤ j ∧ j < k + m ∧ knF h i f t m k = kid h i j ∧ h 11 (kid h i j) = f ∧ h 12 (kid h i j) = t
  | 0, k => Or.inl rfl
  | m + 1, k => by
    unfold knF
    by_cases e : h 11 (kid h i k) = f ∧ h 12 (kid h i k) = t
    · rw [if_pos e]
      exact Or.inr ⟨k, by omega, by omega, rfl, e⟩
    · rw [if_neg e]
      rcases knF_rg (h := h) (i := i) (f := f) (t := t) m (k + 1) with e2 | ⟨j, j1, j2, j3⟩
      · exact Or.inl e2
      · exact Or.inr ⟨j, by omega, by omega, j3⟩
theorem knV_rg {h : HS} (w : PsiC h) {f t : Int} (hk : ¬ knV h f t = -1) : (1 ≤ knV h f t ∧ knV h f t < h 9 8) ∧ h 10 (knV h f t) = h 0 8 ∧ h 11 (knV h f t) = f ∧ h 12 (knV h f t) = t := by
  have n := w.P.n
  rcases knF_rg (h := h) (i := h 0 8) (f := f) (t := t) (h 15 (h 0 8)).toNat 0 with e | ⟨j, j1, j2, j3, j4, j5⟩
  · exact absurd e hk
  · obtain ⟨b1, b2⟩ := w.C.c (h 0 8) n.1 n.2 j (by omega)
    unfold knV
    rw [j3]
    exact ⟨⟨by omega, b1.2⟩, b2, j4, j5⟩
theorem knL {h : HS} (w : PsiC h) {i f t : Int} (hi : 0 ≤ i ∧ i < h 9 8) (hf : 0 ≤ f ∧ f < 64) (ht : 0 ≤ t ∧ t < 64) : ∀ (nf k : Nat) (x : Int), (k : Int) ≤ h 15 i → ((k : Int) < h 15 i → x = kid h i k) → (h 15 i).toNat - k < nf → fX4_childOfMove_L11 nf i f t x (k : Int) h = some (knF h i f t ((h 15 i).toNat - k) k)
  | 0, k, x, h1, h2, h3 => by omega
  | nf + 1, k, x, h1, h2, h3 => by
    have c0 := (w.R.g i hi.1 hi.2).2.2.2.2
    have n := w.R.n
    rw [fX4_childOfMove_L11]
    unfold fX4_childOfMove_b55
    rw [pX4_countC w hi, Option.bind_some, wr_of (z := h 15 i) (by omega) (by omega), wr_of (z := (k : Int)) (by omega) (by omega)]
    by_cases hk : h 15 i ≤ (k : Int)
    · rw [if_pos hk, show (h 15 i).toNat - k = 0 by omega]
      rfl
    · obtain ⟨b1, b2⟩ := w.C.c i hi.1 hi.2 k (by omega)
      have g := w.R.g (kid h i k) (by omega) b1.2
      have ex := h2 (by omega)
      subst ex
      have hx2 : 0 ≤ kid h i k ∧ kid h i k < 200 := by omega
      rw [if_neg hk, pX4_has (by unfold zr; omega) n, if_pos (show 0 ≤ kid h i k ∧ kid h i k < h 9 8 by omega), Option.bind_some, if_neg (show ¬ wr 1 = 0 by decide), if_pos hx2, wr_of (z := h 11 (kid h i k)) (by omega) (by omega), wr_of (z := f) (by omega) (by omega), wr_of (z := h 12 (kid h i k)) (by omega) (by omega), wr_of (z := t) (by omega) (by omega), show (h 15 i).toNat - k = ((h 15 i).toNat - (k + 1)) + 1 by omega]
      have ih := knL w hi hf ht nf (k + 1) (h 17 (kid h i k)) (by omega) (fun _ => rfl) (by omega)
      rw [show (k : Int) + 1 = ((k + 1 : Nat) : Int) by omega]
      simp only [if_pos hx2, ih]
      show _ = some (if h 11 (kid h i k) = f ∧ h 12 (kid h i k) = t then kid h i k else knF h i f t ((h 15 i).toNat - (k + 1)) (k + 1))
      by_cases e1 : h 11 (kid h i k) = f
      · by_cases e2 : h 12 (kid h i k) = t
        · rw [if_pos e1, if_pos e2, if_pos ⟨e1, e2⟩]
        · rw [if_pos e1, if_neg e2, if_neg (fun e => e2 e.2)]
      · rw [if_neg e1, if_neg (fun e => e1 e.1)]
theorem knC {h : HS} (w : PsiC h) {f t : Int} (hf : 0 ≤ f ∧ f < 64) (ht : 0 ≤ t ∧ t < 64) : fX4_childOfMove (h 0 8) f t h = some (knV h f t) := by
  have n := w.P.n
  have c0 := (w.R.g (h 0 8) n.1 n.2).2.2.2.2
  unfold fX4_childOfMove
  by_cases hc : h 15 (h 0 8) = 0
  · rw [pX4_childN w n (by unfold zr; omega) (by omega), Option.bind_some]
    exact knL w n hf ht zF 0 (-1) (by omega) (fun e => by omega) (by unfold zF; omega)
  · rw [pX4_childC w n (by omega), Option.bind_some]
    exact knL w n hf ht zF 0 _ (by omega) (fun e => rfl) (by unfold zF; omega)
theorem knRL {h g : HS} (w : Psi h) (e : zqm g h) {f t : Int} (hf : 0 ≤ f ∧ f < 64) (ht : 0 ≤ t ∧ t < 64) : ∀ (nf k : Nat), (k : Int) ≤ h 15 (h 0 8) → (h 15 (h 0 8)).toNat - k < nf → fX6_known_L2 nf f t (k : Int) g = some (knF h (h 0 8) f t ((h 15 (h 0 8)).toNat - k) k)
  | 0, k, h1, h3 => by omega
  | nf + 1, k, h1, h3 => by
    have n := w.P.n.1
    have c0 := (w.R.g (h 0 8) n.1 n.2).2.2.2.2
    have nn := w.R.n
    have e37 := e.c (a := 37) (by decide)
    rw [fX6_known_L2]
    unfold fX6_known_b51
    rw [e.c30 (b := 9) (by decide), w.P.n.2, (pX6_get w e37 n).2.2.2.2, Option.bind_some, wr_of (z := h 15 (h 0 8)) (by omega) (by omega), wr_of (z := (k : Int)) (by omega) (by omega)]
    by_cases hk : h 15 (h 0 8) ≤ (k : Int)
    · rw [if_pos hk, show (h 15 (h 0 8)).toNat - k = 0 by omega]
      rfl
    · obtain ⟨b1, b2⟩ := w.C.c (h 0 8) n.1 n.2 k (by omega)
      have g2 := w.R.g (kid h (h 0 8) k) (by omega) b1.2
      have pg := pX6_get w e37 (q := kid h (h 0 8) k) ⟨by omega, b1.2⟩
      rw [if_neg hk, pX6_cont0 w (e.c (a := 38) (by decide)) n (by omega), Option.bind_some, pg.2.1, Option.bind_some, pg.2.2.1, wr_of (z := h 11 (kid h (h 0 8) k)) (by omega) (by omega), wr_of (z := f) (by omega) (by omega), Option.bind_some, wr_of (z := h 12 (kid h (h 0 8) k)) (by omega) (by omega), wr_of (z := t) (by omega) (by omega), show (h 15 (h 0 8)).toNat - k = ((h 15 (h 0 8)).toNat - (k + 1)) + 1 by omega]
      have ih := knRL w e hf ht nf (k + 1) (by omega) (by omega)
      rw [show (k : Int) + 1 = ((k + 1 : Nat) : Int) by omega]
      simp only [ih]
      show _ = some (if h 11 (kid h (h 0 8) k) = f ∧ h 12 (kid h (h 0 8) k) = t then kid h (h 0 8) k else knF h (h 0 8) f t ((h 15 (h 0 8)).toNat - (k + 1)) (k + 1))
      by_cases e1 : h 11 (kid h (h 0 8) k) = f
      · by_cases e2 : h 12 (kid h (h 0 8) k) = t
        · rw [if_pos e1, if_pos e2, if_pos ⟨e1, e2⟩]
        · rw [if_pos e1, if_neg e2, if_neg (fun e => e2 e.2)]
      · rw [if_neg e1, if_neg (fun e => e1 e.1)]
theorem knR {h g : HS} (w : Psi h) (e : zqm g h) {f t : Int} (hf : 0 ≤ f ∧ f < 64) (ht : 0 ≤ t ∧ t < 64) : fX6_known f t g = some (knV h f t) := by
  have n := w.P.n.1
  have c0 := (w.R.g (h 0 8) n.1 n.2).2.2.2.2
  exact knRL w e hf ht zF 0 (by omega) (by unfold zF; omega)
/-! the class grows -/
def grG (f t : Int) (h : HS) : HS := fun a => if a = 13 then (fun i => if i = h 9 8 then -1 else h 13 i) else if a < 30 then grA f t h a else h a
theorem growC {h : HS} (w : PsiC h) {f t : Int} (hN : h 9 8 < 200) : fX4_grow (h 0 8) f t h = some (h 9 8, grG f t h) := by
  have n := w.P.n
  have n1 := w.R.n
  have c0 := (w.R.g (h 0 8) n.1 n.2).2.2.2.2
  obtain ⟨last, el⟩ : ∃ last, last = if h 15 (h 0 8) = 0 then (-1 : Int) else kid h (h 0 8) ((h 15 (h 0 8)).toNat - 1) := ⟨_, rfl⟩
  have e3 : fX4_child (h 0 8) (h 15 (h 0 8) - 1) h = some last := by
    by_cases hc : h 15 (h 0 8) = 0
    · rw [el, if_pos hc, pX4_childN w n (by unfold zr; omega) (by omega)]
    · rw [el, if_neg hc, pX4_childC w n (by omega), show (h 15 (h 0 8) - 1).toNat = (h 15 (h 0 8)).toNat - 1 by omega]
  have el2 : h 15 (h 0 8) = 0 ∧ last = -1 ∨ h 15 (h 0 8) ≠ 0 ∧ (0 ≤ last ∧ last < h 9 8) ∧ last = kid h (h 0 8) ((h 15 (h 0 8)).toNat - 1) := by
    by_cases hc : h 15 (h 0 8) = 0
    · rw [el, if_pos hc]; exact Or.inl ⟨hc, rfl⟩
    · obtain ⟨b1, b2⟩ := w.C.c (h 0 8) n.1 n.2 ((h 15 (h 0 8)).toNat - 1) (by omega)
      rw [el, if_neg hc]; exact Or.inr ⟨hc, ⟨by omega, b1.2⟩, rfl⟩
  unfold fX4_grow fX4_grow_b41 fX4_grow_b80
  rw [pX4_countC w n, Option.bind_some, e3, Option.bind_some, pX4_has (by unfold zr; omega) n1, if_pos n, Option.bind_some, if_neg (show ¬ wr 1 = 0 by decide), if_pos (by omega), pX4_occupy (by omega), Option.bind_some]
  obtain ⟨O, eO⟩ : ∃ O, O = occ (h 0 8) f t (h 14 (h 0 8) + 1) h := ⟨_, rfl⟩
  have O9 : O 9 8 = h 9 8 + 1 := by rw [eO]; unfold occ; rw [hs_self]
  have One : ∀ a : Nat, ¬ (a = 9 ∨ a = 10 ∨ a = 11 ∨ a = 12 ∨ a = 13 ∨ a = 14 ∨ a = 15 ∨ a = 16 ∨ a = 17) → O a = h a := fun a hn => by
    rw [eO]
    unfold occ
    rw [hs_ne _ _ _ (by omega), hs_ne _ _ _ (by omega), hs_ne _ _ _ (by omega), hs_ne _ _ _ (by omega), hs_ne _ _ _ (by omega), hs_ne _ _ _ (by omega), hs_ne _ _ _ (by omega), hs_ne _ _ _ (by omega), hs_ne _ _ _ (by omega)]
  have O9b : ∀ b, b ≠ 8 → O 9 b = h 9 b := fun b hb => by rw [eO]; unfold occ; simp [hs_at, hb]
  have O10 : ∀ i, O 10 i = if i = h 9 8 then h 0 8 else h 10 i := fun i => by rw [eO]; unfold occ; simp [hs_at]
  have O11 : ∀ i, O 11 i = if i = h 9 8 then f else h 11 i := fun i => by rw [eO]; unfold occ; simp [hs_at]
  have O12 : ∀ i, O 12 i = if i = h 9 8 then t else h 12 i := fun i => by rw [eO]; unfold occ; simp [hs_at]
  have O13 : ∀ i, O 13 i = if i = h 9 8 then -1 else h 13 i := fun i => by rw [eO]; unfold occ; simp [hs_at]
  have O14 : ∀ i, O 14 i = if i = h 9 8 then h 14 (h 0 8) + 1 else h 14 i := fun i => by rw [eO]; unfold occ; simp [hs_at]
  have O15 : ∀ i, O 15 i = if i = h 9 8 then 0 else h 15 i := fun i => by rw [eO]; unfold occ; simp [hs_at]
  have O16 : ∀ i, O 16 i = if i = h 9 8 then -1 else h 16 i := fun i => by rw [eO]; unfold occ; simp [hs_at]
  have O17 : ∀ i, O 17 i = if i = h 9 8 then -1 else h 17 i := fun i => by rw [eO]; unfold occ; simp [hs_at]
  simp only [← eO]
  rw [wr_of (z := h 9 8) (by omega) (by omega), if_neg (by omega), pX4_has (by unfold zr; omega) (by rw [O9]; omega), O9]
  have hn2 : 0 ≤ h 0 8 ∧ h 0 8 < 200 := by omega
  rcases el2 with ⟨hc, hl⟩ | ⟨hc, hl, hl2⟩
  · rw [hl, if_neg (by omega), Option.bind_some, if_pos wr_0, if_pos hn2, if_pos hn2, if_pos hn2, hs_ne _ _ _ (show (15 : Nat) ≠ 16 by decide), O15, if_neg (by omega)]
    congr 2
    funext a b
    unfold grG
    by_cases h13 : a = 13
    · subst h13
      rw [hs_ne _ _ _ (by decide), hs_ne _ _ _ (by decide), if_pos rfl]
      exact O13 b
    rw [if_neg h13]
    by_cases h30 : a < 30
    · rw [if_pos h30]
      rcases (show a = 9 ∨ a = 10 ∨ a = 11 ∨ a = 12 ∨ a = 14 ∨ a = 15 ∨ a = 16 ∨ a = 17 ∨ ¬ (a = 9 ∨ a = 10 ∨ a = 11 ∨ a = 12 ∨ a = 13 ∨ a = 14 ∨ a = 15 ∨ a = 16 ∨ a = 17) by omega) with e | e | e | e | e | e | e | e | e
      · subst e
        rw [hs_ne _ _ _ (by decide), hs_ne _ _ _ (by decide)]
        show O 9 b = if b = 8 then h 9 8 + 1 else h 9 b
        by_cases hb : b = 8
        · rw [if_pos hb, hb, O9]
        · rw [if_neg hb, O9b b hb]
      · subst e; rw [hs_ne _ _ _ (by decide), hs_ne _ _ _ (by decide), O10, grA_10]
      · subst e; rw [hs_ne _ _ _ (by decide), hs_ne _ _ _ (by decide), O11, grA_11]
      · subst e; rw [hs_ne _ _ _ (by decide), hs_ne _ _ _ (by decide), O12, grA_12]
      · subst e; rw [hs_ne _ _ _ (by decide), hs_ne _ _ _ (by decide), O14, grA_14]
      · subst e
        rw [hs_at, if_pos rfl, hs_ne _ _ _ (by decide), O15, grA_15]
        by_cases e1 : b = h 0 8
        · rw [if_pos e1, if_neg (by omega), if_pos e1]
        · rw [if_neg e1, if_neg e1]
      · subst e
        rw [hs_ne _ _ _ (by decide), hs_at, if_pos rfl, O16, grA_16]
        by_cases e1 : b = h 0 8
        · rw [if_pos e1, if_neg (by omega), if_pos ⟨e1, hc⟩]
        · rw [if_neg e1, if_neg (fun k : b = h 0 8 ∧ h 15 (h 0 8) = 0 => e1 k.1)]
      · subst e
        rw [hs_ne _ _ _ (by decide), hs_ne _ _ _ (by decide), O17, grA_17, if_neg (fun k : h 15 (h 0 8) ≠ 0 ∧ b = _ => k.1 hc)]
      · rw [hs_ne _ _ _ (by omega), hs_ne _ _ _ (by omega), One a e, grA_ne (by omega)]
    · rw [if_neg h30, hs_ne _ _ _ (by omega), hs_ne _ _ _ (by omega), One a (by omega)]
  · rw [if_pos (by omega), Option.bind_some, if_neg (show ¬ wr 1 = 0 by decide), if_pos (by omega), if_pos hn2, if_pos hn2, hs_ne _ _ _ (show (15 : Nat) ≠ 17 by decide), O15, if_neg (by omega)]
    congr 2
    funext a b
    unfold grG
    by_cases h13 : a = 13
    · subst h13
      rw [hs_ne _ _ _ (by decide), hs_ne _ _ _ (by decide), if_pos rfl]
      exact O13 b
    rw [if_neg h13]
    by_cases h30 : a < 30
    · rw [if_pos h30]
      rcases (show a = 9 ∨ a = 10 ∨ a = 11 ∨ a = 12 ∨ a = 14 ∨ a = 15 ∨ a = 16 ∨ a = 17 ∨ ¬ (a = 9 ∨ a = 10 ∨ a = 11 ∨ a = 12 ∨ a = 13 ∨ a = 14 ∨ a = 15 ∨ a = 16 ∨ a = 17) by omega) with e | e | e | e | e | e | e | e | e
      · subst e
        rw [hs_ne _ _ _ (by decide), hs_ne _ _ _ (by decide)]
        show O 9 b = if b = 8 then h 9 8 + 1 else h 9 b
        by_cases hb : b = 8
        · rw [if_pos hb, hb, O9]
        · rw [if_neg hb, O9b b hb]
      · subst e; rw [hs_ne _ _ _ (by decide), hs_ne _ _ _ (by decide), O10, grA_10]
      · subst e; rw [hs_ne _ _ _ (by decide), hs_ne _ _ _ (by decide), O11, grA_11]
      · subst e; rw [hs_ne _ _ _ (by decide), hs_ne _ _ _ (by decide), O12, grA_12]
      · subst e; rw [hs_ne _ _ _ (by decide), hs_ne _ _ _ (by decide), O14, grA_14]
      · subst e
        rw [hs_at, if_pos rfl, hs_ne _ _ _ (by decide), O15, grA_15]
        by_cases e1 : b = h 0 8
        · rw [if_pos e1, if_neg (by omega), if_pos e1]
        · rw [if_neg e1, if_neg e1]
      · subst e
        rw [hs_ne _ _ _ (by decide), hs_ne _ _ _ (by decide), O16, grA_16, if_neg (fun k : b = h 0 8 ∧ h 15 (h 0 8) = 0 => hc k.2)]
      · subst e
        rw [hs_ne _ _ _ (by decide), hs_at, if_pos rfl, O17, grA_17]
        by_cases e1 : b = last
        · rw [if_pos e1, if_neg (by omega), if_pos ⟨hc, by rw [e1, hl2]⟩]
        · rw [if_neg e1, if_neg (fun k : h 15 (h 0 8) ≠ 0 ∧ b = kid h (h 0 8) ((h 15 (h 0 8)).toNat - 1) => e1 (by rw [k.2, hl2]))]
      · rw [hs_ne _ _ _ (by omega), hs_ne _ _ _ (by omega), One a e, grA_ne (by omega)]
    · rw [if_neg h30, hs_ne _ _ _ (by omega), hs_ne _ _ _ (by omega), One a (by omega)]
end ZFOLL
