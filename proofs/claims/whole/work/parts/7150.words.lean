/-! THE LAW: what lies there at its start -/
theorem q_180 : Cond.classLink RL 7 RX11 ∈ tbl := tb 180 (by decide +kernel) (by decide +kernel)
theorem q_181 : Cond.instantiable RX11 15 ∈ tbl := tb 181 (by decide +kernel) (by decide +kernel)
theorem q_182 : Cond.methodLink RL 9 yX11_init ∈ tbl := tb 182 (by decide +kernel) (by decide +kernel)
theorem q_183 : Cond.instanceMethod yX11_init ∈ tbl := tb 183 (by decide +kernel) (by decide +kernel)
theorem q_184 : Cond.code yX11_init cX11_init 1 none ∈ tbl := tb 184 (by decide +kernel) (by decide +kernel)
theorem q_1541 : Cond.classLink RL 10 RX12 ∈ tbl := tb 1541 (by decide +kernel) (by decide +kernel)
theorem q_1542 : Cond.instantiable RX12 87 ∈ tbl := tb 1542 (by decide +kernel) (by decide +kernel)
theorem q_1543 : Cond.methodLink RL 12 yX12_init ∈ tbl := tb 1543 (by decide +kernel) (by decide +kernel)
theorem q_1544 : Cond.instanceMethod yX12_init ∈ tbl := tb 1544 (by decide +kernel) (by decide +kernel)
set_option maxRecDepth 1000000 in
set_option maxHeartbeats 4000000 in
theorem q_1545 : Cond.code yX12_init cX12_init 1 none ∈ tbl := tb 1545 rfl rfl
theorem wiX11_init : WI yX11_init cX11_init 1 0 := ⟨q_183, q_159, q_184, by decide +kernel, by decide +kernel, by decide +kernel⟩
theorem nf_X11 : ∀ j, j < 15 → defaultValue (tyX11 j) = vp_V (([1, 1, 1, 1, 1, 1, 1, 1, 1, 1, 1, 1, 1, 1, 0] : List Nat).map fun c => if c = 0 then Value.int 0 else Value.null) j := by decide +kernel
theorem wiX12_init : WI yX12_init cX12_init 1 0 := ⟨q_1544, q_171, q_1545, by decide +kernel, by decide +kernel, by decide +kernel⟩
theorem nf_X12 : ∀ j, j < 87 → defaultValue (tyX12 j) = vp_V (([0, 1, 1, 0, 1, 0, 0, 0, 1, 1, 1, 1, 1, 0, 0, 0, 0, 0, 1, 1, 1, 1, 1, 1, 1, 1, 0, 0, 0, 1, 0, 0, 0, 0, 0, 0, 1, 0, 1, 0, 1, 1, 1, 1, 1, 1, 1, 1, 1, 0, 1, 1, 0, 1, 1, 1, 1, 1, 0, 1, 1, 1, 0, 1, 0, 1, 1, 1, 1, 1, 0, 1, 0, 1, 1, 1, 1, 1, 1, 1, 1, 1, 1, 0, 0, 0, 1] : List Nat).map fun c => if c = 0 then Value.int 0 else Value.null) j := by decide +kernel
