/-! small numbers of words -/
theorem wq4 {i : Nat} (h : i < 1000) : Hd (w32 ((i : Int) + 1) = ((i + 1 : Nat) : Int)) ∧ Hd (w32 (4 * (i : Int)) = 4 * i) ∧ Hd (w32 (4 * (i : Int) + 1) = (i : Int) * 4 + 1) ∧ Hd (w32 (4 * (i : Int) + 2) = (i : Int) * 4 + 2) ∧ Hd (w32 (4 * (i : Int) + 3) = (i : Int) * 4 + 3) ∧ Hd (w32 (4 * (i : Int) + 4) = 4 * ((i + 1 : Nat) : Int)) := by
  unfold Hd
  refine ⟨?_, ?_, ?_, ?_, ?_, ?_⟩
  · exact w32_nat (by omega)
  · exact w32_sm (by omega)
  · rw [w32_sm (by omega), Int.mul_comm]
  · rw [w32_sm (by omega), Int.mul_comm]
  · rw [w32_sm (by omega), Int.mul_comm]
  · rw [w32_sm (by omega)]
    omega
