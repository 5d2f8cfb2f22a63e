section ZSETUP
theorem z_refOf {args : Array Value} {s : State} {t : Term} {nm : String} (h : (Cond.exactly t nm).before args s = true) : ∃ a : Nat, t.eval args s none [] s = some (.ref a) := by
  obtain ⟨a, c, cA, kA, q1, -⟩ := Cond.exactly_spec (args := args) (first := s) (o := none) (s := s) (idx := []) (t := t) (cls := nm) h
  exact ⟨a, q1⟩
theorem z_neq {args : Array Value} {s : State} {t u : Term} {a b : Nat} (hn : a ≠ b) (ht : t.eval args s none [] s = some (.ref a)) (hu : u.eval args s none [] s = some (.ref b)) : (Cond.not (.eq t u)).before args s = true := by
  simp [Cond.before, Cond.holds, Cond.value, ht, hu, hn]
theorem z_eqr {args : Array Value} {s : State} {t u : Term} {a : Nat} (h : (Cond.eq t u).before args s = true) (hu : u.eval args s none [] s = some (.ref a)) : t.eval args s none [] s = some (.ref a) := by
  cases hv : t.eval args s none [] s with
  | none => simp [Cond.before, Cond.holds, Cond.value, hv] at h
  | some w =>
    simp only [Cond.before, Cond.holds, Cond.value, hv, hu] at h
    cases w <;> simp_all
/-- an array class -/
theorem z_arrOf {args : Array Value} {s : State} {ty : FieldType} (h : (Cond.arrayClass ty).before args s = true) : ∃ cA : ClassId, (ArrOfT s cA ty) ∧ s.vm.findClass ("[" ++ ty.toString) = some cA := by
  obtain ⟨cA, kA, comp, h1, h2, h3⟩ := Cond.arrayClass_spec h
  exact ⟨cA, fun n z => ⟨fun k h => (by cases h), kA, h2, comp, h3⟩, h1⟩
theorem z_msW : ∀ q ∈ zMsg, (Cond.stringRef RX5 q.1 q.2) ∈ lw_tbl := by decide +kernel
def zFlat : List Cond := flatC (Jvm.Cond.and given_1 narrow_1)
theorem z_nW : (Cond.fieldLinkNest RX0 40 RX1 "size" "I" RX5) ∈ lw_tbl ∧ (Cond.fieldLinkNest RX0 46 RX1 "stepCounts" "[I" RX5) ∈ lw_tbl ∧ (Cond.fieldLinkNest RX0 49 RX1 "stepX" "[I" RX5) ∈ lw_tbl ∧ (Cond.fieldLinkNest RX0 52 RX1 "stepY" "[I" RX5) ∈ lw_tbl ∧ (Cond.fieldLinkNest RX0 55 RX1 "stepReach" "[I" RX5) ∈ lw_tbl ∧ (Cond.methodLinkNest RX5 11 yX1_init RX5) ∈ lw_tbl ∧ (Cond.methodLinkNest RX5 34 yX2_init RX5) ∈ lw_tbl ∧ (Cond.methodLinkNest RX5 48 yX3_init RX5) ∈ lw_tbl ∧ (Cond.methodLinkNest RX0 25 yX5_isSquare RX5) ∈ lw_tbl := by decide +kernel
theorem z_cW : (Cond.castable (zExc 1) (zExc 1)) ∈ lw_tbl ∧ (Cond.castable (zExc 2) (zExc 2)) ∈ lw_tbl ∧ (Cond.castable (zExc 3) (zExc 3)) ∈ lw_tbl ∧ (Cond.declares (Bundle.initS "java/lang/RuntimeException")) ∈ lw_tbl ∧ (Cond.declares (Bundle.initS "java/lang/Exception")) ∈ lw_tbl ∧ (Cond.declares (Bundle.initS Bundle.tN)) ∈ lw_tbl := by decide +kernel
theorem z_sW : (Cond.laysStatic "BoardNotationModel" "FORMS" "[Ljava/lang/String;") ∈ lw_tbl ∧ (Cond.initialized "BoardNotationModel") ∈ lw_tbl ∧ (Cond.laysStatic "java/lang/String" "COMPACT_STRINGS" "Z") ∈ lw_tbl ∧ (Cond.initialized "java/lang/String") ∈ lw_tbl ∧ (Cond.laysStatic Bundle.tN "UNASSIGNED_STACK" Bundle.steD) ∈ lw_tbl ∧ (Cond.initialized Bundle.tN) ∈ lw_tbl ∧ (Cond.laysStatic Bundle.tN "SUPPRESSED_SENTINEL" Bundle.listD) ∈ lw_tbl ∧ (Cond.laysStatic "jdk/internal/util/Preconditions" "SIOOBE_FORMATTER" "Ljava/util/function/BiFunction;") ∈ lw_tbl ∧ (Cond.initialized "jdk/internal/util/Preconditions") ∈ lw_tbl := by decide +kernel
theorem z_aW : (Cond.arrayClass .int) ∈ lw_tbl ∧ (Cond.arrayClass .long) ∈ lw_tbl ∧ (Cond.instantiable RX0 2) ∈ lw_tbl ∧ (Cond.instantiable RX1 6) ∈ lw_tbl ∧ (Cond.instantiable RX2 8) ∈ lw_tbl ∧ (Cond.instantiable RX3 3) ∈ lw_tbl ∧ (Cond.instantiable RX4 9) ∈ lw_tbl ∧ (Cond.instantiable RX5 16) ∈ lw_tbl ∧ (Cond.instantiable RX6 26) ∈ lw_tbl := by decide +kernel
theorem z_fMs : ∀ q ∈ zMsg, (Cond.exactly (.string RX5 q.1) "java/lang/String") ∈ zFlat := by decide +kernel
theorem z_fNc : (Cond.not (.castable (zExc 2) (zExc 1))) ∈ zFlat ∧ (Cond.not (.castable (zExc 3) (zExc 1))) ∈ zFlat ∧ (Cond.not (.castable (zExc 3) (zExc 2))) ∈ zFlat := by decide +kernel
def zFm (i : Nat) : Term := .string "BoardNotationModel" (247 + 2 * i)
def zFt : Term := .static "BoardNotationModel" "FORMS" "[Ljava/lang/String;"
theorem z_f1 : ∀ i : Nat, i < 16 → (Cond.exactly (zFm i) "java/lang/String") ∈ zFlat := by decide +kernel
theorem z_f2 : ∀ i : Nat, i < 16 → (Cond.eq (.field (zFm i) "java/lang/String" "coder" "B") (.int 0)) ∈ zFlat := by decide +kernel
theorem z_f3 : ∀ i : Nat, i < 16 → (Cond.arrayOf (.field (zFm i) "java/lang/String" "value" "[B") .byte) ∈ zFlat := by decide +kernel
theorem z_f4 : ∀ i : Nat, i < 16 → (Cond.eq (.length (.field (zFm i) "java/lang/String" "value" "[B")) (.int (Int32.ofNat (zLen.getD i 0)))) ∈ zFlat := by decide +kernel
end ZSETUP
