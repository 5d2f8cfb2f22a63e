section ZBITS
/-! bits of a long -/
def bi (x : Int64) (t : Nat) : Bool := x.toBitVec.getLsbD t
theorem zcmp_0 {x y : Int64} : wr (zcmp x y) = 0 ↔ x = y := by
  unfold zcmp
  by_cases h1 : y < x
  · rw [if_pos h1]
    exact ⟨fun e => absurd e (by decide), fun e => by subst e; exact absurd h1 Int64.lt_irrefl⟩
  · rw [if_neg h1]
    by_cases h2 : x = y
    · rw [if_pos h2]
      exact ⟨fun _ => h2, fun _ => wr_0⟩
    · rw [if_neg h2]
      exact ⟨fun e => absurd e (by decide), fun e => absurd e h2⟩
theorem bi_zero (t : Nat) : bi (Int64.ofNat 0) t = false := by
  have e : (Int64.ofNat 0).toBitVec = 0#64 := rfl
  unfold bi
  rw [e, BitVec.getLsbD_zero]
theorem bi_or (x y : Int64) (t : Nat) : bi (x ||| y) t = (bi x t || bi y t) := by
  have e : (x ||| y).toBitVec = x.toBitVec ||| y.toBitVec := rfl
  unfold bi
  rw [e, BitVec.getLsbD_or]
theorem bi_and (x y : Int64) (t : Nat) : bi (x &&& y) t = (bi x t && bi y t) := by
  have e : (x &&& y).toBitVec = x.toBitVec &&& y.toBitVec := rfl
  unfold bi
  rw [e, BitVec.getLsbD_and]
theorem bi_ext {x : Int64} : x = Int64.ofNat 0 ↔ ∀ t, t < 64 → bi x t = false := by
  constructor
  · intro e t _
    subst e
    exact bi_zero t
  · intro h
    refine Int64.toBitVec.inj (BitVec.eq_of_getLsbD_eq (fun i hi => ?_))
    have e := h i hi
    have z := bi_zero i
    unfold bi at e z
    rw [e, z]
theorem bi_shl0 : ∀ s t : Fin 64, bi (zshl (Int64.ofNat 1) ((s.val : Nat) : Int)) t.val = decide (t.val = s.val) := by decide +kernel
theorem bi_shl {s : Int} {t : Nat} (hs : 0 ≤ s ∧ s < 64) (ht : t < 64) : bi (zshl (Int64.ofNat 1) s) t = decide ((t : Int) = s) := by
  have e := bi_shl0 ⟨s.toNat, by omega⟩ ⟨t, ht⟩
  have e1 : ((s.toNat : Nat) : Int) = s := Int.toNat_of_nonneg hs.1
  simp only [e1] at e
  rw [e]
  by_cases h : (t : Int) = s
  · rw [decide_eq_true h, decide_eq_true (by omega)]
  · rw [decide_eq_false h, decide_eq_false (by omega)]
theorem zush0 : ∀ s : Fin 64, (((iI ((s.val : Nat) : Int)).toInt64.toUInt64 &&& Int64.toUInt64 63).toBitVec % 64#64).toNat = s.val := by decide +kernel
theorem bi_ushr {x : Int64} {s : Int} {t : Nat} (hs : 0 ≤ s ∧ s < 64) : bi (zushr x s) t = bi x (s.toNat + t) := by
  have e := zush0 ⟨s.toNat, by omega⟩
  have e1 : ((s.toNat : Nat) : Int) = s := Int.toNat_of_nonneg hs.1
  simp only [e1] at e
  have e2 : (zushr x s).toBitVec = x.toBitVec >>> (((iI s).toInt64.toUInt64 &&& Int64.toUInt64 63).toBitVec % 64#64) := rfl
  unfold bi
  rw [e2, BitVec.ushiftRight_eq', e, BitVec.getLsbD_ushiftRight]
theorem bi_one0 : ∀ t : Fin 64, bi (Int64.ofNat 1) t.val = decide (t.val = 0) := by decide +kernel
theorem bi_big {x : Int64} {t : Nat} (h : 64 ≤ t) : bi x t = false := BitVec.getLsbD_of_ge _ _ h
/-- the test of one bit -/
theorem zbit {x : Int64} {s : Int} (hs : 0 ≤ s ∧ s < 64) : wr (zcmp ((zushr x s) &&& (Int64.ofNat 1)) (Int64.ofNat 0)) = 0 ↔ bi x s.toNat = false := by
  rw [zcmp_0, bi_ext]
  constructor
  · intro h
    have e := h 0 (by omega)
    rw [bi_and, bi_ushr hs, bi_one0 ⟨0, by omega⟩] at e
    simpa using e
  · intro h t ht
    rw [bi_and, bi_ushr hs, bi_one0 ⟨t, ht⟩]
    by_cases h0 : t = 0
    · subst h0
      rw [Nat.add_zero, h]
      rfl
    · simp [h0]
theorem zbits {x y : Int64} : wr (zcmp (x &&& y) (Int64.ofNat 0)) = 0 ↔ ∀ t, t < 64 → ¬ (bi x t = true ∧ bi y t = true) := by
  rw [zcmp_0, bi_ext]
  constructor
  · intro h t ht e
    have e1 := h t ht
    rw [bi_and, e.1, e.2] at e1
    exact absurd e1 (by decide)
  · intro h t ht
    rw [bi_and]
    have e := h t ht
    cases h1 : bi x t
    · rfl
    · cases h2 : bi y t
      · rfl
      · exact absurd ⟨h1, h2⟩ e
theorem zbit0 {x : Int64} : wr (zcmp x (Int64.ofNat 0)) = 0 ↔ ∀ t, t < 64 → bi x t = false := by
  rw [zcmp_0, bi_ext]
theorem zbitr {x : Int64} {s : Int} (hs : 0 ≤ s ∧ s < 64) : wr (zcmp (zushr x s) (Int64.ofNat 0)) = 0 ↔ ∀ t : Nat, s ≤ t → t < 64 → bi x t = false := by
  rw [zcmp_0, bi_ext]
  constructor
  · intro h t h1 h2
    have e := h (t - s.toNat) (by omega)
    rw [bi_ushr hs, show s.toNat + (t - s.toNat) = t by omega] at e
    exact e
  · intro h t ht
    rw [bi_ushr hs]
    by_cases h64 : s.toNat + t < 64
    · exact h _ (by omega) h64
    · exact bi_big (by omega)
end ZBITS
