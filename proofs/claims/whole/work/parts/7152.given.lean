/-! THE LAW: the text constants, as they are given -/
def ls_ex_p : List Nat := [9, 19, 28, 37, 45, 51, 58, 65, 75, 81, 87, 94, 100, 107, 116, 124, 134, 143, 149, 159, 167, 178, 188, 196, 206, 216, 224, 233]
set_option maxRecDepth 100000 in
theorem ls_ex_a : ∀ i : Nat, i < 28 → lw_flat[ls_ex_p.getD i 0]? = some (Cond.exactly (tmS i) "java/lang/String") := by decide +kernel
theorem ls_ex : ∀ i : Nat, i < 28 → Cond.exactly (tmS i) "java/lang/String" ∈ lw_flat := fun i hi => List.mem_of_getElem? (ls_ex_a i hi)
def ls_co_p : List Nat := [10, 20, 29, 38, 46, 52, 59, 66, 76, 82, 88, 95, 101, 108, 117, 125, 135, 144, 150, 160, 168, 179, 189, 197, 207, 217, 225, 234]
set_option maxRecDepth 100000 in
theorem ls_co_a : ∀ i : Nat, i < 28 → lw_flat[ls_co_p.getD i 0]? = some (Cond.eq (.field (tmS i) "java/lang/String" "coder" "B") (.int 0)) := by decide +kernel
theorem ls_co : ∀ i : Nat, i < 28 → Cond.eq (.field (tmS i) "java/lang/String" "coder" "B") (.int 0) ∈ lw_flat := fun i hi => List.mem_of_getElem? (ls_co_a i hi)
def ls_ar_p : List Nat := [11, 21, 30, 39, 47, 53, 60, 67, 77, 83, 89, 96, 102, 109, 118, 126, 136, 145, 151, 161, 169, 180, 190, 198, 208, 218, 226, 235]
set_option maxRecDepth 100000 in
theorem ls_ar_a : ∀ i : Nat, i < 28 → lw_flat[ls_ar_p.getD i 0]? = some (Cond.arrayOf (.field (tmS i) "java/lang/String" "value" "[B") .byte) := by decide +kernel
theorem ls_ar : ∀ i : Nat, i < 28 → Cond.arrayOf (.field (tmS i) "java/lang/String" "value" "[B") .byte ∈ lw_flat := fun i hi => List.mem_of_getElem? (ls_ar_a i hi)
def ls_le_p : List Nat := [12, 22, 31, 40, 48, 54, 61, 68, 78, 84, 90, 97, 103, 110, 119, 127, 137, 146, 152, 162, 170, 181, 191, 199, 209, 219, 227, 236]
set_option maxRecDepth 100000 in
theorem ls_le_a : ∀ i : Nat, i < 28 → lw_flat[ls_le_p.getD i 0]? = some (Cond.eq (.length (.field (tmS i) "java/lang/String" "value" "[B")) (.int (Int32.ofNat (strL.getD i 0)))) := by decide +kernel
theorem ls_le : ∀ i : Nat, i < 28 → Cond.eq (.length (.field (tmS i) "java/lang/String" "value" "[B")) (.int (Int32.ofNat (strL.getD i 0))) ∈ lw_flat := fun i hi => List.mem_of_getElem? (ls_le_a i hi)
theorem ls_cs : Cond.eq (.static "java/lang/String" "COMPACT_STRINGS" "Z") (.int 1) ∈ lw_flat := List.mem_of_getElem? (i := 4) (by decide +kernel)
theorem ls_si : Cond.isRef (.static "jdk/internal/util/Preconditions" "SIOOBE_FORMATTER" "Ljava/util/function/BiFunction;") ∈ lw_flat := List.mem_of_getElem? (i := 5) (by decide +kernel)
