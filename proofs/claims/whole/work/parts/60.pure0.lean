section ZPURE0
/-! PURE MATHEMATICS from here on: the two sides' functions agree -/
theorem hs_at (h : HS) (i : Nat) (k v : Int) (a : Nat) (b : Int) : hs h i k v a b = if a = i then (if b = k then v else h i b) else h a b := by
  unfold hs
  by_cases e : a = i
  · rw [if_pos e, if_pos e]
  · rw [if_neg e, if_neg e]
def zr (x : Int) : Prop := -2147483648 ≤ x ∧ x < 2147483648
theorem zxs_r (xs : Nat → Int32) (i : Int) : zr (zxs xs i) := by
  unfold zr zxs
  have h1 := Int32.le_toInt (xs i.toNat)
  have h2 := Int32.toInt_lt (xs i.toNat)
  constructor <;> omega
theorem wr_r (x : Int) : zr (wr x) := by
  unfold zr wr
  have h1 := Int32.le_toInt (iI x)
  have h2 := Int32.toInt_lt (iI x)
  constructor <;> omega
/-- the law's test of two answers -/
theorem zcmp_eq {x y : Int} (hx : zr x) (e : x = y) : wr (zcmp (Int64.ofInt (wr x)) (iI y).toInt64) = 0 := by
  subst e
  have e1 : Int64.ofInt (wr x) = (iI x).toInt64 := by
    unfold wr
    rw [← Int32.toInt_toInt64, Int64.ofInt_toInt]
  rw [e1]
  unfold zcmp
  rw [if_neg (by exact Int64.lt_irrefl), if_pos rfl]
  rfl
/-! the reference's small helpers -/
theorem pX6_isIn {x a b : Int} {h : HS} (hx : zr x) (ha : zr a) (hb : zr b) : fX6_isIn x a b h = some (if a ≤ x ∧ x ≤ b then 1 else 0) := by
  unfold fX6_isIn zr at *
  simp (disch := omega) only [wr_of]
  by_cases h1 : x < a
  · rw [if_pos h1, if_neg (by omega)]
  · rw [if_neg h1]
    by_cases h2 : b < x
    · rw [if_pos h2, if_neg (by omega)]
    · rw [if_neg h2, if_pos (by omega)]
/-! the tape -/
abbrev PsT (h : HS) : Prop := (0 ≤ h 19 1 ∧ h 19 1 ≤ 2000) ∧ (h 30 13 = h 19 1) ∧ (∀ i : Int, 0 ≤ i → i < h 19 1 → h 39 i = h 20 i ∧ 0 ≤ h 20 i ∧ h 20 i ≤ 255)
theorem PsT.n {h : HS} (w : PsT h) : 0 ≤ h 19 1 ∧ h 19 1 ≤ 2000 := w.1
theorem PsT.n2 {h : HS} (w : PsT h) : h 30 13 = h 19 1 := w.2.1
theorem PsT.by_ {h : HS} (w : PsT h) : ∀ i : Int, 0 ≤ i → i < h 19 1 → h 39 i = h 20 i ∧ 0 ≤ h 20 i ∧ h 20 i ≤ 255 := w.2.2
/-- what the last reading said -/
abbrev PsE (h : HS) : Prop := (h 30 14 = h 0 13 ∧ -1 ≤ h 0 13 ∧ h 0 13 ≤ 5000) ∧ (h 30 15 = h 0 14 ∧ -1 ≤ h 0 14 ∧ h 0 14 ≤ 5000) ∧ (h 30 16 = h 0 15 ∧ -1 ≤ h 0 15 ∧ h 0 15 ≤ 5000)
theorem PsE.e1 {h : HS} (w : PsE h) : h 30 14 = h 0 13 ∧ -1 ≤ h 0 13 ∧ h 0 13 ≤ 5000 := w.1
theorem PsE.e2 {h : HS} (w : PsE h) : h 30 15 = h 0 14 ∧ -1 ≤ h 0 14 ∧ h 0 14 ≤ 5000 := w.2.1
theorem PsE.e3 {h : HS} (w : PsE h) : h 30 16 = h 0 15 ∧ -1 ≤ h 0 15 ∧ h 0 15 ≤ 5000 := w.2.2
theorem pX5_byteAt {p : Int} {h : HS} (hp : zr p) (hT : PsT h) : fX5_byteAt p h = if 0 ≤ p ∧ p < h 19 1 then some (0, h 20 p, h) else some (1, 0, h) := by
  obtain ⟨n1, n2, -⟩ := hT
  unfold fX5_byteAt fX5_byteAt_b15 fX3_size fX3_get zr at *
  simp (disch := omega) only [wr_of, Option.bind_some]
  by_cases h1 : p < 0
  · rw [if_pos h1, if_neg (by omega)]
  · rw [if_neg h1]
    by_cases h2 : p < h 19 1
    · rw [if_pos h2, if_neg h1, if_neg (by omega), if_pos (by omega), if_pos (by omega)]
      rfl
    · rw [if_neg h2, if_neg (by omega)]
theorem pX6_byteAt {p : Int} {h : HS} (hp : zr p) (hn : 0 ≤ h 30 13 ∧ h 30 13 ≤ 2000) : fX6_byteAt p h = if 0 ≤ p ∧ p < h 30 13 then some (h 39 p, hs h 30 0 0) else some (0, hs (hs h 30 0 0) 30 0 1) := by
  have e1 : hs h 30 0 0 30 13 = h 30 13 := by simp [hs_at]
  have e2 : hs h 30 0 0 39 p = h 39 p := by simp [hs_at]
  unfold fX6_byteAt fX6_fail
  rw [e1, e2, pX6_isIn hp (by unfold zr; omega) (by unfold zr; omega)]
  by_cases h1 : 0 ≤ p ∧ p < h 30 13
  · rw [if_pos h1, if_pos (by omega), Option.bind_some, if_neg (by decide), if_pos (by omega)]
  · rw [if_neg h1, if_neg (by omega), Option.bind_some, if_pos (by decide)]
    rfl
/-! the law's case, in general -/
def gC (r1 : Option (Int × HS)) (k : HS → Option (Int × HS)) : Option HS := r1.bind fun r1 => (k r1.2).bind fun r2 => (fX6_thrown r2.2).bind fun r3 => if wr r3 = wr r1.1 then (if wr r1.1 = 0 then (if wr (zcmp (Int64.ofInt (r2.2 50 0)) (iI r2.1).toInt64) = 0 then some r2.2 else none) else some r2.2) else none
theorem gC_ok {h1 h2 : HS} {v v1 : Int} {k : HS → Option (Int × HS)} (hk : k (hs h1 50 0 (wr v)) = some (v1, h2)) (hv : zr v) (e : v = v1) (h0 : h2 30 0 = 0) (h5 : h2 50 0 = wr v) : gC (some (0, hs h1 50 0 (wr v))) k = some h2 := by
  unfold gC fX6_thrown
  rw [Option.bind_some, hk, Option.bind_some, Option.bind_some]
  show (if wr (h2 30 0) = wr 0 then (if wr 0 = 0 then (if wr (zcmp (Int64.ofInt (h2 50 0)) (iI v1).toInt64) = 0 then some h2 else none) else some h2) else none) = some h2
  rw [h0, h5, if_pos rfl, if_pos wr_0, if_pos (zcmp_eq hv e)]
theorem gC_thr {h1 h2 : HS} {t v1 : Int} {k : HS → Option (Int × HS)} (hk : k h1 = some (v1, h2)) (ht : zr t ∧ t ≠ 0) (h0 : h2 30 0 = t) : gC (some (t, h1)) k = some h2 := by
  unfold gC fX6_thrown
  rw [Option.bind_some, hk, Option.bind_some, Option.bind_some]
  show (if wr (h2 30 0) = wr t then (if wr t = 0 then (if wr (zcmp (Int64.ofInt (h2 50 0)) (iI v1).toInt64) = 0 then some h2 else none) else some h2) else none) = some h2
  rw [h0, if_pos rfl, if_neg (by rw [wr_of ht.1.1 ht.1.2]; exact ht.2)]
/-- the same but for what a call may leave behind anyhow -/
def zeqv (o h : HS) : Prop := ∀ (a : Nat) (b : Int), a ≠ 50 → ¬ (a = 30 ∧ b = 0) → o a b = h a b
theorem zeqv.rf {h : HS} : zeqv h h := fun _ _ _ _ => rfl
theorem zeqv.h50 {o h : HS} (e : zeqv o h) (k v : Int) : zeqv (hs o 50 k v) h := fun a b h1 h2 => by
  rw [hs_at, if_neg h1]
  exact e a b h1 h2
theorem zeqv.h30 {o h : HS} (e : zeqv o h) (v : Int) : zeqv (hs o 30 0 v) h := fun a b h1 h2 => by
  rw [hs_at]
  by_cases ha : a = 30
  · subst ha
    rw [if_pos rfl, if_neg (fun hb => h2 ⟨rfl, hb⟩)]
    exact e 30 b h1 h2
  · rw [if_neg ha]
    exact e a b h1 h2
theorem pc_12 {p : Int} {h : HS} (hp : zr p) (hT : PsT h) : ∃ o, fL_c12 p h = some o ∧ zeqv o h := by
  have eg : fL_c12 p h = gC (fL_byteAt p h) (fX6_byteAt p) := rfl
  obtain ⟨n, n2, hb⟩ := id hT
  rw [eg]
  unfold fL_byteAt
  rw [pX5_byteAt hp hT]
  by_cases h1 : 0 ≤ p ∧ p < h 19 1
  · rw [if_pos h1, Option.bind_some, if_pos rfl]
    obtain ⟨b1, b2, b3⟩ := hb p h1.1 h1.2
    refine ⟨_, gC_ok (v1 := h 39 p) (h2 := hs (hs h 50 0 (wr (h 20 p))) 30 0 0) ?_ (by show zr (h 20 p); unfold zr; omega) b1.symm (by simp [hs_at]) (by simp [hs_at]), (zeqv.rf.h50 _ _).h30 _⟩
    rw [pX6_byteAt hp (by simp [hs_at]; omega), if_pos (by simp [hs_at]; omega)]
    simp [hs_at]
  · rw [if_neg h1, Option.bind_some, if_neg (show ¬ (1 : Int) = 0 by decide), if_pos rfl]
    refine ⟨_, gC_thr (v1 := 0) (h2 := hs (hs h 30 0 0) 30 0 1) ?_ ⟨by unfold zr; omega, by decide⟩ (by simp [hs_at]), (zeqv.rf.h30 _).h30 _⟩
    show fX6_byteAt p h = _
    rw [pX6_byteAt hp (by omega), if_neg (by omega)]
theorem fX6_isSq {p : Int} {h : HS} (hp : zr p) : fX6_isSquare p h = some (if 0 ≤ p ∧ p < 64 then 1 else 0) := by
  unfold fX6_isSquare
  rw [pX6_isIn hp (by unfold zr; omega) (by unfold zr; omega), Option.bind_some]
  by_cases h1 : 0 ≤ p ∧ p < 64
  · rw [if_pos h1, if_pos (show 0 ≤ p ∧ p ≤ 63 by omega), if_pos (Or.inr rfl)]
  · rw [if_neg h1, if_neg (show ¬ (0 ≤ p ∧ p ≤ 63) by omega), if_pos (Or.inl rfl)]
theorem fX5_isSq {p : Int} {h : HS} (hp : zr p) : fX5_isSquare p h = some (if 0 ≤ p ∧ p < 64 then 1 else 0) := by
  unfold fX5_isSquare
  rw [wr_of hp.1 hp.2]
  by_cases h1 : p < 0
  · rw [if_pos h1, if_neg (by omega)]
  · rw [if_neg h1]
    by_cases h2 : 64 ≤ p
    · rw [if_pos h2, if_neg (by omega)]
    · rw [if_neg h2, if_pos (by omega)]
/-- the board: -1 nothing, 2 * kind + side a piece -/
abbrev PsB (h : HS) : Prop := (0 ≤ h 1 5 ∧ h 1 5 ≤ 6) ∧ (h 30 1 = h 1 5) ∧ (∀ s : Int, 0 ≤ s → s < 64 → h 35 s = h 8 s ∧ -1 ≤ h 8 s ∧ h 8 s < 2 * h 1 5)
theorem PsB.nk {h : HS} (w : PsB h) : 0 ≤ h 1 5 ∧ h 1 5 ≤ 6 := w.1
theorem PsB.nk2 {h : HS} (w : PsB h) : h 30 1 = h 1 5 := w.2.1
theorem PsB.sq {h : HS} (w : PsB h) : ∀ s : Int, 0 ≤ s → s < 64 → h 35 s = h 8 s ∧ -1 ≤ h 8 s ∧ h 8 s < 2 * h 1 5 := w.2.2
theorem pc_3 {p : Int} {h : HS} (hp : zr p) (hB : PsB h) : ∃ o, fL_c3 p h = some o ∧ zeqv o h := by
  have eg : fL_c3 p h = gC (fL_at p h) (fX6_at p) := rfl
  obtain ⟨n, n2, hb⟩ := id hB
  rw [eg]
  unfold fL_at fX5_at fX0_pieceOn
  rw [fX5_isSq hp, Option.bind_some]
  by_cases h1 : 0 ≤ p ∧ p < 64
  · obtain ⟨b1, b2, b3⟩ := hb p h1.1 h1.2
    rw [if_pos h1, if_neg (show ¬ wr 1 = 0 by decide), Option.bind_some, if_neg (show ¬ wr 1 = 0 by decide), if_pos h1, Option.bind_some, Option.bind_some, if_pos rfl]
    refine ⟨_, gC_ok (v1 := h 35 p) (h2 := hs (hs h 50 0 (wr (h 8 p))) 30 0 0) ?_ (by show zr (h 8 p); unfold zr; omega) b1.symm (by simp [hs_at]) (by simp [hs_at]), (zeqv.rf.h50 _ _).h30 _⟩
    unfold fX6_at
    rw [fX6_isSq hp, Option.bind_some, if_pos h1, if_neg (show ¬ wr 1 = 0 by decide), if_pos h1]
    simp [hs_at]
  · rw [if_neg h1, if_pos wr_0, Option.bind_some, if_neg (show ¬ (1 : Int) = 0 by decide), if_pos rfl]
    refine ⟨_, gC_thr (v1 := 0) (h2 := hs (hs h 30 0 0) 30 0 1) ?_ ⟨by unfold zr; omega, by decide⟩ (by simp [hs_at]), (zeqv.rf.h30 _).h30 _⟩
    show fX6_at p h = _
    unfold fX6_at fX6_fail
    rw [fX6_isSq hp, Option.bind_some, if_neg h1, if_pos wr_0]
    rfl
theorem pc_10 {p : Int} {h : HS} (hp : zr p) (hE : PsE h) : ∃ o, fL_c10 p h = some o ∧ zeqv o h := by
  have eg : fL_c10 p h = gC (fL_found p h) (fX6_found p) := rfl
  obtain ⟨⟨a1, a2, a3⟩, ⟨b1, b2, b3⟩, ⟨c1, c2, c3⟩⟩ := hE
  rw [eg]
  have e6 : ∀ h : HS, fX6_found p h = if 0 ≤ p ∧ p ≤ 2 then (if p = 0 then some (h 30 14, hs h 30 0 0) else if p = 1 then some (h 30 15, hs h 30 0 0) else some (h 30 16, hs h 30 0 0)) else some (0, hs (hs h 30 0 0) 30 0 1) := by
    intro h
    unfold fX6_found fX6_fail
    rw [pX6_isIn hp (by unfold zr; omega) (by unfold zr; omega), Option.bind_some, wr_of hp.1 hp.2]
    by_cases h1 : 0 ≤ p ∧ p ≤ 2
    · rw [if_pos h1, if_pos h1, if_neg (show ¬ wr 1 = 0 by decide)]
      simp [hs_at]
    · rw [if_neg h1, if_neg h1, if_pos wr_0]
      rfl
  unfold fL_found fX5_found
  rw [wr_of hp.1 hp.2]
  by_cases h0 : p = 0
  · rw [if_pos h0, Option.bind_some, if_pos rfl]
    refine ⟨_, gC_ok (v1 := h 30 14) (h2 := hs (hs h 50 0 (wr (h 0 13))) 30 0 0) ?_ (by show zr (h 0 13); unfold zr; omega) a1.symm (by simp [hs_at]) (by simp [hs_at]), (zeqv.rf.h50 _ _).h30 _⟩
    rw [e6, if_pos (by omega), if_pos h0]
    simp [hs_at]
  · rw [if_neg h0]
    by_cases h1 : p = 1
    · rw [if_pos h1, Option.bind_some, if_pos rfl]
      refine ⟨_, gC_ok (v1 := h 30 15) (h2 := hs (hs h 50 0 (wr (h 0 14))) 30 0 0) ?_ (by show zr (h 0 14); unfold zr; omega) b1.symm (by simp [hs_at]) (by simp [hs_at]), (zeqv.rf.h50 _ _).h30 _⟩
      rw [e6, if_pos (by omega), if_neg h0, if_pos h1]
      simp [hs_at]
    · rw [if_neg h1]
      by_cases h2 : p = 2
      · rw [if_pos h2, Option.bind_some, if_pos rfl]
        refine ⟨_, gC_ok (v1 := h 30 16) (h2 := hs (hs h 50 0 (wr (h 0 15))) 30 0 0) ?_ (by show zr (h 0 15); unfold zr; omega) c1.symm (by simp [hs_at]) (by simp [hs_at]), (zeqv.rf.h50 _ _).h30 _⟩
        rw [e6, if_pos (by omega), if_neg h0, if_neg h1]
        simp [hs_at]
      · rw [if_neg h2, Option.bind_some, if_neg (show ¬ (1 : Int) = 0 by decide), if_pos rfl]
        refine ⟨_, gC_thr (v1 := 0) (h2 := hs (hs h 30 0 0) 30 0 1) ?_ ⟨by unfold zr; omega, by decide⟩ (by simp [hs_at]), (zeqv.rf.h30 _).h30 _⟩
        show fX6_found p h = _
        rw [e6, if_neg (by omega)]
end ZPURE0
