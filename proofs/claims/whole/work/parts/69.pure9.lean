section ZPURE9
def occ (a b c d : Int) (h : HS) : HS := hs (hs (hs (hs (hs (hs (hs (hs (hs h 10 (h 9 8) a) 11 (h 9 8) b) 12 (h 9 8) c) 13 (h 9 8) (-1)) 14 (h 9 8) d) 15 (h 9 8) 0) 16 (h 9 8) (-1)) 17 (h 9 8) (-1)) 9 8 (h 9 8 + 1)
theorem hs_ne' {h : HS} {i : Nat} {k v : Int} {a : Nat} {b : Int} (e : a ≠ i) : hs h i k v a b = h a b := by rw [hs_at, if_neg e]
theorem hs_self {h : HS} {i : Nat} {k v : Int} : hs h i k v i k = v := by rw [hs_at, if_pos rfl, if_pos rfl]
theorem pX4_occupy {a b c d : Int} {h : HS} (hn : 0 ≤ h 9 8 ∧ h 9 8 < 200) : fX4_occupy a b c d h = some (h 9 8, occ a b c d h) := by
  unfold fX4_occupy occ
  simp only [hs_ne' (show (9 : Nat) ≠ 10 by decide), hs_ne' (show (9 : Nat) ≠ 11 by decide), hs_ne' (show (9 : Nat) ≠ 12 by decide), hs_ne' (show (9 : Nat) ≠ 13 by decide), hs_ne' (show (9 : Nat) ≠ 14 by decide), hs_ne' (show (9 : Nat) ≠ 15 by decide), hs_ne' (show (9 : Nat) ≠ 16 by decide), hs_ne' (show (9 : Nat) ≠ 17 by decide), hs_self, if_pos hn, Int.add_sub_cancel]
  rw [if_pos (by rw [wr_of (by omega) (by omega)]; omega)]
/-- loops that fill -/
theorem pJ7_fill {v : Int} : ∀ (nf : Nat) (j : Int) (h : HS), 0 ≤ j → j ≤ 64 → 64 - j < nf → ∃ o, fJ7_fill_53178_L5 nf v j 64 h = some o ∧ (∀ s : Int, j ≤ s → s < 64 → o 8 s = v) ∧ (∀ s : Int, s < j → o 8 s = h 8 s) ∧ (∀ a b, a ≠ 8 → o a b = h a b)
  | 0, j, h, h0, h1, h2 => by omega
  | nf + 1, j, h, h0, h1, h2 => by
    rw [fJ7_fill_53178_L5]
    rw [wr_of (z := 64) (by omega) (by omega), wr_of (z := j) (by omega) (by omega)]
    by_cases hj : 64 ≤ j
    · rw [if_pos hj]
      exact ⟨h, rfl, fun s a b => by omega, fun _ _ => rfl, fun _ _ _ => rfl⟩
    · rw [if_neg hj, if_pos (by omega)]
      obtain ⟨o, e1, e2, e3, e4⟩ := pJ7_fill (v := v) nf (j + 1) (hs h 8 j v) (by omega) (by omega) (by omega)
      refine ⟨o, e1, fun s a b => ?_, fun s a => ?_, fun a b ha => ?_⟩
      · by_cases hs1 : s = j
        · subst hs1
          rw [e3 s (by omega), hs_self]
        · exact e2 s (by omega) b
      · rw [e3 s (by omega), hs_at, if_pos rfl, if_neg (by omega)]
      · rw [e4 a b ha, hs_ne' ha]
theorem pX6_L164 : ∀ (nf : Nat) (j : Int) (h : HS), 0 ≤ j → j ≤ 3 → 3 - j < nf → ∃ o, fX6_init_L164 nf j h = some o ∧ (∀ s : Int, j ≤ s → s < 3 → o 37 s = -1) ∧ (∀ s : Int, (s < j ∨ 3 ≤ s) → o 37 s = h 37 s) ∧ (∀ a b, a ≠ 37 → o a b = h a b)
  | 0, j, h, h0, h1, h2 => by omega
  | nf + 1, j, h, h0, h1, h2 => by
    rw [fX6_init_L164]
    rw [wr_of (z := j) (by omega) (by omega)]
    by_cases hj : 3 ≤ j
    · rw [if_pos hj]
      exact ⟨h, rfl, fun s a b => by omega, fun _ _ => rfl, fun _ _ _ => rfl⟩
    · rw [if_neg hj, if_pos (by omega)]
      obtain ⟨o, e1, e2, e3, e4⟩ := pX6_L164 nf (j + 1) (hs h 37 j (-1)) (by omega) (by omega) (by omega)
      refine ⟨o, e1, fun s a b => ?_, fun s a => ?_, fun a b ha => ?_⟩
      · by_cases hs1 : s = j
        · subst hs1
          rw [e3 s (by omega), hs_self]
        · exact e2 s (by omega) b
      · rw [e3 s (by omega), hs_at, if_pos rfl, if_neg (by omega)]
      · rw [e4 a b ha, hs_ne' ha]
theorem pX6_L128 : ∀ (nf : Nat) (j : Int) (h : HS), 0 ≤ j → j ≤ 64 → 64 - j < nf → (∀ s : Int, 0 ≤ s → s < j → h 34 s = -1) → ∃ o, fX6_init_L128 nf j h = some o ∧ (∀ s : Int, 0 ≤ s → s < 64 → o 34 s = -1 ∧ o 35 s = -1) ∧ (∀ s : Int, 0 ≤ s → s < 3 → o 37 s = -1) ∧ (∀ s : Int, 3 ≤ s → o 37 s = h 37 s) ∧ (∀ a b, a ≠ 34 → a ≠ 35 → a ≠ 37 → o a b = h a b)
  | 0, j, h, h0, h1, h2, _ => by omega
  | nf + 1, j, h, h0, h1, h2, h3 => by
    rw [fX6_init_L128]
    rw [wr_of (z := j) (by omega) (by omega)]
    by_cases hj : 64 ≤ j
    · rw [if_pos hj, if_pos (by omega)]
      obtain ⟨o, e1, e2, e3, e4⟩ := pX6_L164 zF 0 (hcp h 34 0 35 0 64) (by omega) (by omega) (by unfold zF; omega)
      refine ⟨o, e1, fun s a b => ⟨?_, ?_⟩, fun s a b => e2 s a b, fun s a => ?_, fun a b h34 h35 h37 => ?_⟩
      · rw [e4 34 s (by decide), hcp_ne _ _ _ _ _ (by decide)]
        exact h3 s a (by omega)
      · rw [e4 35 s (by decide), hcp_eq]
        simp only
        rw [if_pos (by omega)]
        exact h3 _ (by omega) (by omega)
      · rw [e3 s (Or.inr a), hcp_ne _ _ _ _ _ (by decide)]
      · rw [e4 a b h37, hcp_ne _ _ _ _ _ h35]
    · rw [if_neg hj, if_pos (by omega)]
      obtain ⟨o, e1, e2, e3, e4, e5⟩ := pX6_L128 nf (j + 1) (hs h 34 j (-1)) (by omega) (by omega) (by omega) (fun s a b => by
        by_cases hs1 : s = j
        · subst hs1; rw [hs_self]
        · rw [hs_at, if_pos rfl, if_neg hs1]; exact h3 s a (by omega))
      refine ⟨o, e1, e2, e3, fun s a => ?_, fun a b h34 h35 h37 => ?_⟩
      · rw [e4 s a, hs_ne' (by decide)]
      · rw [e5 a b h34 h35 h37, hs_ne' h34]
end ZPURE9
