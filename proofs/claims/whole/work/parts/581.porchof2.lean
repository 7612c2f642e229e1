/-! PORCHOF: the sitters, the feet -/
theorem sit2 {σ τ : St} {p : Int} (h0 : σ 3 5 = τ 0 7) (h1 : 0 ≤ τ 0 7) (h2 : τ 0 7 ≤ 20) (hv : ∀ i, 0 ≤ i → i < τ 0 7 → σ 11 i = τ 1 (41 + i) - 1 ∧ 0 ≤ τ 1 (41 + i) ∧ τ 1 (41 + i) ≤ 12) : Ok2 (fX2_sittersOf p σ) (fX12_sittersOn p τ) fun v σ' v' τ' => v' = v ∧ σ = σ' ∧ τ = τ' := by
  unfold fX2_sittersOf fX12_sittersOn
  obtain ⟨n, hn⟩ : ∃ n : Nat, τ 0 7 = n := ⟨(τ 0 7).toNat, by omega⟩
  refine ok2_bnd (ok2_for n (fun i x σ' y τ' => σ = σ' ∧ τ = τ' ∧ ∃ a : Int, x = (a, (i : Int)) ∧ y = (a, (i : Int))) (by omega) ⟨rfl, rfl, 0, rfl, rfl⟩ ?_ ?_)
  · rintro i x σ' y τ' hi ⟨rfl, rfl, a, rfl, rfl⟩
    obtain ⟨q1, q2, q3⟩ := hv i (by omega) (by omega)
    have wi : w32 ((i : Int) + 1) = ((i + 1 : Nat) : Int) := w32_nat (by omega)
    have w41 : w32 (41 + (i : Int)) = 41 + i := w32_sm (by omega)
    have wv : w32 (τ 1 (41 + (i : Int)) - 1) = τ 1 (41 + (i : Int)) - 1 := w32_sm (by omega)
    dsimp only
    unfold fX12_sitsOn
    rw [fld_eq, fld_eq, h0, hn, if_pos (by omega), if_pos (by omega), lod_eq (by omega), w41, lod_eq (by omega), bnd_some, wv, q1, wi]
    by_cases c : τ 1 (41 + (i : Int)) - 1 = p
    · rw [if_pos c, if_pos c, lb_eq, lb_eq, ok2_some]
      exact ⟨rfl, rfl, _, rfl, rfl⟩
    · rw [if_neg c, if_neg c, ok2_some]
      exact ⟨rfl, rfl, _, rfl, rfl⟩
  · rintro x σ' y τ' ⟨rfl, rfl, a, rfl, rfl⟩
    dsimp only
    rw [fld_eq, fld_eq, h0, hn, if_neg (Int.lt_irrefl _), if_neg (Int.lt_irrefl _), ok2_some]
    show Ok2 _ _ _
    rw [ok2_some]
    exact ⟨rfl, rfl, rfl⟩
