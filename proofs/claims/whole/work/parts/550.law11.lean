/-! the law's code: the sitters, for the reference -/
theorem m_sitters {τ : St} {p : Int} {n : Nat} (hn : τ 0 7 = n) (h20 : n ≤ 20) (hv : ∀ i : Nat, i < n → 0 ≤ τ 1 (41 + (i : Int)) ∧ τ 1 (41 + (i : Int)) ≤ 12) : Ok (fX12_sittersOn p τ) fun r τ' => τ = τ' ∧ ∃ v : Nat, r = v ∧ v < 1048576 ∧ ∀ i : Nat, i < 30 → (v.testBit i = true ↔ i < n ∧ τ 1 (41 + (i : Int)) = p + 1) := by
  unfold fX12_sittersOn
  rw [ko_bnd]
  refine for_ok n (fun i x τ' => τ = τ' ∧ ∃ v : Nat, x = ((v : Int), (i : Int)) ∧ v < 2 ^ i ∧ ∀ j : Nat, j < 30 → (v.testBit j = true ↔ j < i ∧ τ 1 (41 + (j : Int)) = p + 1)) (by omega) ⟨rfl, 0, rfl, by decide, fun j hj => ?_⟩ ?_ ?_
  · rw [Nat.zero_testBit]
    exact ⟨fun h => absurd h (by decide), fun h => absurd h.1 (Nat.not_lt_zero j)⟩
  · rintro i x _ hi ⟨rfl, v, rfl, hb, ht⟩
    obtain ⟨v0, v1⟩ := hv i hi
    have p20 : 2 ^ i ≤ 1048576 := by
      have := Nat.pow_le_pow_right (n := 2) (by decide) (show i ≤ 20 by omega)
      omega
    have wi : w32 (41 + (i : Int)) = 41 + i := w32_sm (by omega)
    have wv : w32 (τ 1 (41 + (i : Int)) - 1) = τ 1 (41 + (i : Int)) - 1 := w32_sm (by omega)
    have up2 : v < 2 ^ (i + 1) := by rw [Nat.pow_succ]; omega
    dsimp only
    unfold fX12_sitsOn
    rw [ko_fld, hn, ko_t (by omega), wi, lod_eq (by omega), bnd_some, wv, w32_nat (by omega)]
    by_cases c : τ 1 (41 + (i : Int)) = p + 1
    · have hor : ior (v : Int) (ishl 1 i) = ((v ||| 2 ^ i : Nat) : Int) := by
        rw [ishl_one i (by omega), ior_nat (by omega) (by omega)]
      rw [ko_t (by omega), ko_lb, ko_some, ko_jl, hor]
      refine ⟨rfl, _, rfl, Nat.or_lt_two_pow up2 (Nat.pow_lt_pow_right (by decide) (Nat.lt_succ_self i)), fun j hj => ?_⟩
      rw [Nat.testBit_or, Nat.testBit_two_pow, Bool.or_eq_true, decide_eq_true_iff, ht j hj]
      constructor
      · rintro (⟨h1, h2⟩ | rfl)
        · exact ⟨by omega, h2⟩
        · exact ⟨Nat.lt_succ_self i, c⟩
      · rintro ⟨h1, h2⟩
        by_cases e : j = i
        · exact Or.inr e.symm
        · exact Or.inl ⟨by omega, h2⟩
    · rw [ko_f (by omega), ko_some, ko_jl]
      refine ⟨rfl, v, rfl, up2, fun j hj => ?_⟩
      rw [ht j hj]
      constructor
      · rintro ⟨h1, h2⟩
        exact ⟨by omega, h2⟩
      · rintro ⟨h1, h2⟩
        by_cases e : j = i
        · subst e; exact absurd h2 c
        · exact ⟨by omega, h2⟩
  · rintro x _ ⟨rfl, v, rfl, hb, ht⟩
    have p20 : 2 ^ n ≤ 1048576 := by
      have := Nat.pow_le_pow_right (n := 2) (by decide) h20
      omega
    rw [ko_fld, hn, ko_f (Int.lt_irrefl _), ko_some, ko_jr, ko_some]
    exact ⟨rfl, v, rfl, by omega, ht⟩
