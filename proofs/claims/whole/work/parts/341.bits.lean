/-! bits of small numbers -/
theorem pI_bv (n : Nat) : (pI n).toBitVec = BitVec.ofNat 32 n := by
  unfold pI
  rw [Int32.toBitVec_ofInt, BitVec.ofInt_natCast]
theorem toI_small {x : Int32} {n : Nat} (h : x.toBitVec.toNat = n) (hn : n < 2147483648) : x.toInt = n := by
  show x.toBitVec.toInt = n
  rw [BitVec.toInt_eq_toNat_of_lt (by omega), h]
theorem iand_nat {a b : Nat} (ha : a < 2147483648) (hb : b < 2147483648) : iand a b = ((a &&& b : Nat) : Int) := by
  unfold iand
  apply toI_small
  · rw [Int32.toBitVec_and, pI_bv, pI_bv, BitVec.toNat_and, BitVec.toNat_ofNat, BitVec.toNat_ofNat, Nat.mod_eq_of_lt (by omega), Nat.mod_eq_of_lt (by omega)]
  · exact Nat.lt_of_le_of_lt Nat.and_le_left ha
theorem ior_nat {a b : Nat} (ha : a < 2147483648) (hb : b < 2147483648) : ior a b = ((a ||| b : Nat) : Int) := by
  unfold ior
  apply toI_small
  · rw [Int32.toBitVec_or, pI_bv, pI_bv, BitVec.toNat_or, BitVec.toNat_ofNat, BitVec.toNat_ofNat, Nat.mod_eq_of_lt (by omega), Nat.mod_eq_of_lt (by omega)]
  · exact Nat.or_lt_two_pow (n := 31) ha hb
theorem ishl_one : ∀ k : Nat, k < 31 → ishl 1 k = ((2 ^ k : Nat) : Int) := by decide +kernel
theorem sh_cnt : ∀ k : Nat, k < 32 → ((pI k &&& 31).toBitVec.smod 32).toNat = k := by decide +kernel
theorem ishr_nat {a k : Nat} (ha : a < 2147483648) (hk : k < 32) : ishr a k = ((a >>> k : Nat) : Int) := by
  unfold ishr
  apply toI_small
  · rw [Int32.toBitVec_shiftRight, BitVec.sshiftRight', sh_cnt k hk, pI_bv, BitVec.sshiftRight_eq_of_msb_false, BitVec.toNat_ushiftRight, BitVec.toNat_ofNat, Nat.mod_eq_of_lt (by omega)]
    rw [BitVec.msb_eq_false_iff_two_mul_lt, BitVec.toNat_ofNat, Nat.mod_eq_of_lt (by omega)]
    omega
  · exact Nat.lt_of_le_of_lt (Nat.shiftRight_le a k) ha
theorem bit_nat {a k : Nat} (ha : a < 2147483648) (hk : k < 32) : iand (ishr a k) 1 = if a.testBit k then 1 else 0 := by
  rw [ishr_nat ha hk, show (1 : Int) = ((1 : Nat) : Int) from rfl, iand_nat (Nat.lt_of_le_of_lt (Nat.shiftRight_le a k) ha) (by decide), Nat.testBit, Nat.and_comm, Nat.one_and_eq_mod_two]
  by_cases h : (a >>> k) % 2 = 0
  · rw [h]; rfl
  · rw [show (a >>> k) % 2 = 1 by omega]; rfl
theorem bit_iff {a k : Nat} (ha : a < 2147483648) (hk : k < 32) : iand (ishr a k) 1 = 1 ↔ a.testBit k = true := by
  rw [bit_nat ha hk]
  by_cases h : a.testBit k = true <;> simp [h]
theorem has_eq {s k : Int} {σ : St} : fX12_has s k σ = some (if iand (ishr s k) 1 = 1 then 1 else 0, σ) := by
  unfold fX12_has
  split <;> rfl
theorem orb_iff {a k j : Nat} (ha : a < 1073741824) (hk : k < 30) (hj : j < 32) : iand (ishr (ior a (ishl 1 k)) j) 1 = 1 ↔ iand (ishr a j) 1 = 1 ∨ j = k := by
  have h2 : 2 ^ k < 1073741824 := Nat.pow_lt_pow_of_lt (a := 2) (n := k) (m := 30) (by decide) hk
  have h3 : a ||| 2 ^ k < 2 ^ 30 := Nat.or_lt_two_pow ha (by omega)
  rw [ishl_one k (by omega), ior_nat (by omega) (by omega), bit_iff (by omega) hj, bit_iff (by omega) hj, Nat.testBit_or, Nat.testBit_two_pow, Bool.or_eq_true, decide_eq_true_iff]
  constructor <;> (rintro (h | h) <;> first | exact Or.inl h | exact Or.inr h.symm)
theorem imx_nat (a b : Nat) : imx a b = ((max a b : Nat) : Int) := by unfold imx; split <;> omega
theorem imn_nat (a b : Nat) : imn a b = ((min a b : Nat) : Int) := by unfold imn; split <;> omega
theorem greater_eq {a b : Int} {σ : St} : fX12_greater a b σ = some (imx a b, σ) := by
  unfold fX12_greater imx
  by_cases h : b < a
  · rw [if_pos h, if_neg (by omega)]
  · rw [if_neg h]
    by_cases h2 : a < b
    · rw [if_pos h2]
    · rw [if_neg h2, show a = b by omega]
theorem lesser_eq {a b : Int} {σ : St} : fX12_lesser a b σ = some (imn a b, σ) := by
  unfold fX12_lesser imn
  by_cases h : a < b
  · rw [if_pos h, if_neg (by omega)]
  · rw [if_neg h]
    by_cases h2 : b < a
    · rw [if_pos h2]
    · rw [if_neg h2, show a = b by omega]
theorem irm_nn {a b : Int} (ha : 0 ≤ a) : irm a b = a % b := Int.tmod_eq_emod_of_nonneg ha
theorem idv_nn {a b : Int} (ha : 0 ≤ a) (hb : 0 < b) (h : a ≤ 2147483647) : idv a b = a / b := by
  unfold idv
  rw [Int.tdiv_eq_ediv_of_nonneg ha]
  have h1 : 0 ≤ a / b := Int.ediv_nonneg ha (by omega)
  have h2 : a / b ≤ a := Int.ediv_le_self b ha
  exact w32_sm (by omega)
