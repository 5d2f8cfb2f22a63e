section ZPURE14
theorem kid_other {p a : Int} {h : HS} (hC : PsC h) {j : Nat} (ha0 : 0 ≤ a ∧ a < h 9 8) (hj : (j : Int) < h 15 a) (hk : kid h a j = p) {i : Int} (hi : i ≠ a) (hi0 : 0 ≤ i ∧ i < h 9 8) : ∀ k : Nat, (k : Int) < h 15 i → kid (nProm p a j h) i k = kid h i k
  | 0, h1 => by
    unfold nProm
    by_cases h0 : j = 0
    · rw [if_pos h0]
    · rw [if_neg h0]
      show hs _ 16 a p 16 i = h 16 i
      rw [hs_at, if_pos rfl, if_neg hi, hs_ne' (by decide), hs_ne' (by decide)]
  | k + 1, h1 => by
    have e := kid_other hC ha0 hj hk hi hi0 k (by omega)
    obtain ⟨-, -, m1⟩ := hC.c i hi0.1 hi0.2 k (by omega)
    obtain ⟨-, -, m2⟩ := hC.c a ha0.1 ha0.2 j hj
    show nProm p a j h 17 (kid (nProm p a j h) i k) = h 17 (kid h i k)
    rw [e]
    unfold nProm
    by_cases h0 : j = 0
    · rw [if_pos h0]
    · obtain ⟨-, -, m3⟩ := hC.c a ha0.1 ha0.2 (j - 1) (by omega)
      have n1 : kid h i k ≠ p := fun e => hi (by rw [← m1, e, ← hk, m2])
      have n2 : kid h i k ≠ kid h a (j - 1) := fun e => hi (by rw [← m1, e, m3])
      rw [if_neg h0, hs_ne' (by decide), hs_at, if_pos rfl, if_neg n1, hs_at, if_pos rfl, if_neg n2]
end ZPURE14
