section ZSETUP2
theorem z_f5_0 : ∀ j : Nat, j < 2 → (Cond.eq (.elem (.field (zFm 0) "java/lang/String" "value" "[B") (.int (Int32.ofNat j))) (.int ((zByt.getD 0 []).getD j 0))) ∈ zFlat := by decide +kernel
theorem z_f5_1 : ∀ j : Nat, j < 3 → (Cond.eq (.elem (.field (zFm 1) "java/lang/String" "value" "[B") (.int (Int32.ofNat j))) (.int ((zByt.getD 1 []).getD j 0))) ∈ zFlat := by decide +kernel
theorem z_f5_2 : ∀ j : Nat, j < 3 → (Cond.eq (.elem (.field (zFm 2) "java/lang/String" "value" "[B") (.int (Int32.ofNat j))) (.int ((zByt.getD 2 []).getD j 0))) ∈ zFlat := by decide +kernel
theorem z_f5_3 : ∀ j : Nat, j < 4 → (Cond.eq (.elem (.field (zFm 3) "java/lang/String" "value" "[B") (.int (Int32.ofNat j))) (.int ((zByt.getD 3 []).getD j 0))) ∈ zFlat := by decide +kernel
theorem z_f5_4 : ∀ j : Nat, j < 3 → (Cond.eq (.elem (.field (zFm 4) "java/lang/String" "value" "[B") (.int (Int32.ofNat j))) (.int ((zByt.getD 4 []).getD j 0))) ∈ zFlat := by decide +kernel
theorem z_f5_5 : ∀ j : Nat, j < 4 → (Cond.eq (.elem (.field (zFm 5) "java/lang/String" "value" "[B") (.int (Int32.ofNat j))) (.int ((zByt.getD 5 []).getD j 0))) ∈ zFlat := by decide +kernel
theorem z_f5_6 : ∀ j : Nat, j < 4 → (Cond.eq (.elem (.field (zFm 6) "java/lang/String" "value" "[B") (.int (Int32.ofNat j))) (.int ((zByt.getD 6 []).getD j 0))) ∈ zFlat := by decide +kernel
theorem z_f5_7 : ∀ j : Nat, j < 5 → (Cond.eq (.elem (.field (zFm 7) "java/lang/String" "value" "[B") (.int (Int32.ofNat j))) (.int ((zByt.getD 7 []).getD j 0))) ∈ zFlat := by decide +kernel
theorem z_f5_8 : ∀ j : Nat, j < 3 → (Cond.eq (.elem (.field (zFm 8) "java/lang/String" "value" "[B") (.int (Int32.ofNat j))) (.int ((zByt.getD 8 []).getD j 0))) ∈ zFlat := by decide +kernel
theorem z_f5_9 : ∀ j : Nat, j < 4 → (Cond.eq (.elem (.field (zFm 9) "java/lang/String" "value" "[B") (.int (Int32.ofNat j))) (.int ((zByt.getD 9 []).getD j 0))) ∈ zFlat := by decide +kernel
theorem z_f5_10 : ∀ j : Nat, j < 4 → (Cond.eq (.elem (.field (zFm 10) "java/lang/String" "value" "[B") (.int (Int32.ofNat j))) (.int ((zByt.getD 10 []).getD j 0))) ∈ zFlat := by decide +kernel
theorem z_f5_11 : ∀ j : Nat, j < 5 → (Cond.eq (.elem (.field (zFm 11) "java/lang/String" "value" "[B") (.int (Int32.ofNat j))) (.int ((zByt.getD 11 []).getD j 0))) ∈ zFlat := by decide +kernel
theorem z_f5_12 : ∀ j : Nat, j < 4 → (Cond.eq (.elem (.field (zFm 12) "java/lang/String" "value" "[B") (.int (Int32.ofNat j))) (.int ((zByt.getD 12 []).getD j 0))) ∈ zFlat := by decide +kernel
theorem z_f5_13 : ∀ j : Nat, j < 5 → (Cond.eq (.elem (.field (zFm 13) "java/lang/String" "value" "[B") (.int (Int32.ofNat j))) (.int ((zByt.getD 13 []).getD j 0))) ∈ zFlat := by decide +kernel
theorem z_f5_14 : ∀ j : Nat, j < 5 → (Cond.eq (.elem (.field (zFm 14) "java/lang/String" "value" "[B") (.int (Int32.ofNat j))) (.int ((zByt.getD 14 []).getD j 0))) ∈ zFlat := by decide +kernel
theorem z_f5_15 : ∀ j : Nat, j < 6 → (Cond.eq (.elem (.field (zFm 15) "java/lang/String" "value" "[B") (.int (Int32.ofNat j))) (.int ((zByt.getD 15 []).getD j 0))) ∈ zFlat := by decide +kernel
theorem z_f5 : ∀ i : Nat, i < 16 → ∀ j : Nat, j < zLen.getD i 0 → (Cond.eq (.elem (.field (zFm i) "java/lang/String" "value" "[B") (.int (Int32.ofNat j))) (.int ((zByt.getD i []).getD j 0))) ∈ zFlat := by
  intro i hi
  rcases (show i = 0 ∨ i = 1 ∨ i = 2 ∨ i = 3 ∨ i = 4 ∨ i = 5 ∨ i = 6 ∨ i = 7 ∨ i = 8 ∨ i = 9 ∨ i = 10 ∨ i = 11 ∨ i = 12 ∨ i = 13 ∨ i = 14 ∨ i = 15 by omega) with rfl | rfl | rfl | rfl | rfl | rfl | rfl | rfl | rfl | rfl | rfl | rfl | rfl | rfl | rfl | rfl
  · exact z_f5_0
  · exact z_f5_1
  · exact z_f5_2
  · exact z_f5_3
  · exact z_f5_4
  · exact z_f5_5
  · exact z_f5_6
  · exact z_f5_7
  · exact z_f5_8
  · exact z_f5_9
  · exact z_f5_10
  · exact z_f5_11
  · exact z_f5_12
  · exact z_f5_13
  · exact z_f5_14
  · exact z_f5_15
end ZSETUP2
