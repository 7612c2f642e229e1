/-! THE LAW: the tables of what it reads -/
theorem lt_cs : Cond.laysStatic "java/lang/String" "COMPACT_STRINGS" "Z" ∈ lw_tbl := List.mem_of_getElem? (i := 965) (by decide +kernel)
theorem lt_si : Cond.laysStatic "jdk/internal/util/Preconditions" "SIOOBE_FORMATTER" "Ljava/util/function/BiFunction;" ∈ lw_tbl := List.mem_of_getElem? (i := 981) (by decide +kernel)
theorem lt_i1 : Cond.initialized "java/lang/String" ∈ lw_tbl := List.mem_of_getElem? (i := 175) (by decide +kernel)
theorem lt_i2 : Cond.initialized "jdk/internal/util/Preconditions" ∈ lw_tbl := List.mem_of_getElem? (i := 177) (by decide +kernel)
def strP : List Nat := [951, 1004, 1005, 1006, 1007, 1008, 1009, 1010, 1011, 1012, 1013, 1014, 1015, 1016, 1017, 1018, 1019, 1020, 1025, 1026, 1027, 1028, 1029, 1030, 1031, 1032, 1033, 1034]
theorem lt_sr : ∀ i : Nat, i < 28 → lw_tbl[strP.getD i 0]? = some (Cond.stringRef "PorchHours$Tokens" (strT.getD i (0, "")).1 (strT.getD i (0, "")).2) := by decide +kernel
theorem strK_T : ∀ i : Nat, i < 28 → strK.getD i 0 = (strT.getD i (0, "")).1 := by decide +kernel
theorem strL_sm : ∀ i, i < 28 → strL.getD i 0 < 2 ^ 31 := by decide +kernel
