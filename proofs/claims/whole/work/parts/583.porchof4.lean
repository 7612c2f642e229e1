/-! PORCHOF -/
theorem s_porchOf {σ τ : St} (h : Rl σ τ) {p1 p2 : Int} (r2 : rg p2) : Sim (fX11_porchOf p1 p2 σ) (fX12_porchOf p1 p2 τ) := by
  unfold fX12_porchOf
  refine sim_t0 h ?_
  clear h
  intro τ h
  refine Sim.of h ?_
  have hR := h.c_RH
  have hL := h.c_RLaw
  obtain ⟨⟨w0, w1, w2, w3⟩, w4, w5⟩ := h.c_RStreet
  simp only [Nat.reduceAdd] at w0 w1 w4 w5
  clear h
  have b5 := hR.1.2.2.2.2.1
  have b6 := hR.1.2.2.2.2.2
  have bb := hR.2.1
  unfold fX11_porchOf
  rw [hasPorch_eq, isPorch_eq, b5]
  by_cases c1 : 0 ≤ p1 ∧ p1 < τ 0 6
  · rw [if_pos c1, bnd_some, bnd_some, if_neg (show ¬ ((1 : Int) = 0) by decide), if_neg (show ¬ ((1 : Int) = 0) by decide)]
    obtain ⟨q1, q2, q3, q4, q5, u1, u2, u3, u4⟩ := hR.2.2.1 p1 c1.1 c1.2
    simp only [Nat.reduceAdd] at q1 q2 q3 q4 q5
    have l12 : (0 : Int) ≤ p1 ∧ p1 < (12 : Nat) := by omega
    have x5 : w32 (5 + p1) = 5 + p1 := w32_sm (by omega)
    have x17 : w32 (17 + p1) = 17 + p1 := w32_sm (by omega)
    have x29 : w32 (29 + p1) = 29 + p1 := w32_sm (by omega)
    have v29 : w32 (τ 1 (29 + p1) - 1) = τ 1 (29 + p1) - 1 := w32_sm (by omega)
    have l161 : ∀ {β : Type} {i : Int} {g : Int → Rs β}, 0 ≤ i ∧ i < 161 → lod τ 1 161 i g = g (τ 1 i) := fun {β i g} h => lod_eq (by omega)
    by_cases d0 : p2 = 0
    · subst d0
      simp only [Int.reduceEq, if_true, if_false]
      rw [lod_eq l12, lod_eq l12, ok2_some]
      exact ⟨q1.symm, Fr.rf, Fm.rf⟩
    by_cases d1 : p2 = 1
    · subst d1
      simp only [Int.reduceEq, if_true, if_false]
      rw [lod_eq l12, x5, l161 (by omega), ok2_some]
      exact ⟨q2.symm, Fr.rf, Fm.rf⟩
    by_cases d2 : p2 = 2
    · subst d2
      simp only [Int.reduceEq, if_true, if_false]
      rw [lod_eq l12, x17, l161 (by omega), ok2_some]
      exact ⟨q3.symm, Fr.rf, Fm.rf⟩
    by_cases d3 : p2 = 3
    · subst d3
      simp only [Int.reduceEq, if_true, if_false]
      rw [lod_eq l12, x29, l161 (by omega), ok2_some, v29]
      exact ⟨q4.symm, Fr.rf, Fm.rf⟩
    by_cases d4 : p2 = 4
    · subst d4
      simp only [Int.reduceEq, if_true, if_false]
      refine ok2_bnd (ok2_mono (sit2 (p := p1) b6 bb.2.2.1 bb.2.2.2.1 fun i i0 i1 => ?_) ?_)
      · obtain ⟨_, _, t3, _, _, _, _, _, t9, t10, _⟩ := hR.2.2.2 i i0 i1
        exact ⟨t3, t9, by omega⟩
      · rintro v σ' v' τ' ⟨rfl, rfl, rfl⟩
        rw [ok2_some]
        exact ⟨rfl, Fr.rf, Fm.rf⟩
    by_cases d5 : p2 = 5
    · subst d5
      simp only [Int.reduceEq, if_true, if_false]
      refine ok2_bnd (ok2_mono (spins2 hR hL c1) ?_)
      rintro v σ' v' τ' ⟨rfl, fx, fm⟩
      rw [ok2_some]
      exact ⟨rfl, fx.mono (by decide), fm.mono (by decide) (by decide)⟩
    · simp only [d0, d1, d2, d3, d4, d5, if_false]
      have x9 : w32 (9 + τ 0 6) = 9 + τ 0 6 := w32_sm (by omega)
      rw [hasPorch_eq, bnd_some, fld_eq, isIn_eq, bnd_some, b5, x9]
      unfold rg at r2
      by_cases c2 : 10 ≤ p2 ∧ p2 ≤ 9 + τ 0 6
      · have x10 : w32 (p2 - 10) = p2 - 10 := w32_sm (by omega)
        have xi : w32 (w32 (w32 (12 * p1) + p2) - 10) = 12 * p1 + (p2 - 10) := by
          rw [w32_l, w32_ls, w32_sm (by omega)]
          omega
        rw [x10, if_pos (show 0 ≤ p2 - 10 ∧ p2 - 10 < τ 0 6 by omega), if_pos c2, if_neg (show ¬ ((1 : Int) = 0) by decide), if_neg (show ¬ ((1 : Int) = 0) by decide), xi, lod_eq (by omega), w5 p1 (p2 - 10) (by omega) (by omega) (by omega) (by omega)]
        obtain ⟨n, hn⟩ : ∃ n : Nat, τ 0 39 = n := ⟨(τ 0 39).toNat, by omega⟩
        rw [hn] at w1 w4 ⊢
        refine ok2_l (ok_mono (c_feet (a := p1) (b := p2 - 10) w0 w1 (by omega) fun k hk => (w4 k (by omega) (by omega)).2.2.2.2.2.1) ?_)
        rintro v σ' ⟨rfl, rfl⟩
        rw [Int.toNat_natCast]
        by_cases e : fm n (σ 27) p1 (p2 - 10) = 0
        · rw [if_pos e, if_pos e, ok2_some]
          exact ⟨rfl, Fr.rf, Fm.rf⟩
        · rw [if_neg e, if_neg e, ok2_some]
          exact ⟨rfl, Fr.rf, Fm.rf⟩
      · have nx : ¬ (0 ≤ w32 (p2 - 10) ∧ w32 (p2 - 10) < τ 0 6) := by
          intro hx
          by_cases lo : -2147483648 ≤ p2 - 10
          · rw [w32_sm (by omega)] at hx
            omega
          · have e : w32 (p2 - 10) = p2 - 10 + 4294967296 := by
              rw [show p2 - 10 = (p2 - 10 + 4294967296) - 4294967296 by omega]
              unfold w32
              omega
            omega
        rw [if_neg nx, if_neg c2, if_pos rfl, if_pos rfl, ok2_some]
        exact ⟨rfl, Fr.rf, Fm.rf⟩
  · rw [if_neg c1, bnd_some, bnd_some, if_pos rfl, if_pos rfl, ok2_some]
    exact ⟨rfl, Fr.rf, Fm.rf⟩
