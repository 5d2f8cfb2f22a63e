section ZSETUP3
theorem z_f6 : ∀ i : Nat, i < 16 → (Cond.eq (.elem zFt (.int (Int32.ofNat i))) (zFm i)) ∈ zFlat := by decide +kernel
theorem z_f7 : (Cond.arrayOf zFt (.object "java/lang/String")) ∈ zFlat ∧ (Cond.eq (.length zFt) (.int (Int32.ofNat 16))) ∈ zFlat ∧ (Cond.eq (.static "java/lang/String" "COMPACT_STRINGS" "Z") (.int 1)) ∈ zFlat ∧ (Cond.isRef (.static Bundle.tN "UNASSIGNED_STACK" Bundle.steD)) ∈ zFlat ∧ (Cond.isRef (.static Bundle.tN "SUPPRESSED_SENTINEL" Bundle.listD)) ∈ zFlat ∧ (Cond.isRef (.static "jdk/internal/util/Preconditions" "SIOOBE_FORMATTER" "Ljava/util/function/BiFunction;")) ∈ zFlat := by decide +kernel
theorem z_f8 : ∀ i : Nat, i < 16 → ∀ j : Nat, j < 16 → i ≠ j → zLen.getD i 0 ≠ zLen.getD j 0 ∨ ∃ k : Nat, k < zLen.getD i 0 ∧ (zByt.getD i []).getD k 0 ≠ (zByt.getD j []).getD k 0 := by decide +kernel
theorem z_f9 : ∀ i : Nat, i < 16 → ∀ j : Nat, j < 16 → Int32.ofNat (zLen.getD i 0) = Int32.ofNat (zLen.getD j 0) → zLen.getD i 0 = zLen.getD j 0 := by decide +kernel
theorem z_fA (i : Nat) : zLen.getD i 0 < 2 ^ 31 := by
  by_cases h : i < 16
  · revert i
    decide +kernel
  · rw [List.getD_eq_getElem?_getD, List.getElem?_eq_none (by show 16 ≤ i; omega)]
    decide
end ZSETUP3

