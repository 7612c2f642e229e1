/-! the law's code: what is asked, for the reference -/
theorem m_asks {σ τ : St} {pe po : Int} (h : RH σ 3 τ) (hpe : pe = -1 ∨ 0 ≤ pe ∧ pe < τ 0 7) (hpo : 0 ≤ po ∧ po < τ 0 6) : Ok (fX12_asks pe po τ) fun _ t => Fm [21] [] τ t ∧ ∀ a, 0 ≤ a → a ≤ 9 → t 21 a = wT τ pe po a := by
  obtain ⟨_, ⟨b1, b2, b3, b4, b5, b6⟩, hp, hq⟩ := h
  obtain ⟨n, hn⟩ : ∃ n : Nat, τ 0 7 = n := ⟨(τ 0 7).toNat, by omega⟩
  have hv : ∀ i : Nat, i < n → 0 ≤ τ 1 (41 + (i : Int)) ∧ τ 1 (41 + (i : Int)) ≤ 12 := fun i hi => by
    obtain ⟨_, _, _, _, _, _, _, _, q1, q2, _⟩ := hq i (by omega) (by omega)
    exact ⟨q1, by omega⟩
  have w5 : w32 (5 + po) = 5 + po := w32_sm (by omega)
  have w17 : w32 (17 + po) = 17 + po := w32_sm (by omega)
  have s10 : ∀ {β : Type} {σ : St} {i v : Int} {g : St → Rs β}, 0 ≤ i ∧ i ≤ 9 → sto σ 21 10 i v g = g (up σ 21 i v) := fun {β σ i v g} h => sto_eq (by omega)
  have l161 : ∀ {β : Type} {σ : St} {i : Int} {g : Int → Rs β}, 0 ≤ i ∧ i < 161 → lod σ 1 161 i g = g (σ 1 i) := fun {β σ i g} h => lod_eq (by omega)
  have sit : ∀ x y : Int, Ok (fX12_sittersOn po (up (up τ 21 0 x) 21 1 y)) fun r t => t = up (up τ 21 0 x) 21 1 y ∧ ∃ v : Nat, r = v ∧ v < 1048576 ∧ ((pcN 30 v : Nat) : Int) = cP n (fun p => τ 1 (41 + p)) (po + 1) := fun x y =>
    ok_mono (m_sitters (τ := up (up τ 21 0 x) 21 1 y) (p := po) (n := n) hn (by omega) hv) fun r t ⟨e, v, e1, e2, e3⟩ => ⟨e.symm, v, e1, e2, pcN_cP (by omega) e3⟩
  unfold fX12_asks
  rcases hpe with rfl | hpe
  · simp only [if_true, bnd_some]
    rw [s10 (by decide), s10 (by decide), ko_bnd]
    refine ok_mono (sit 0 0) ?_
    rintro r t ⟨rfl, v, rfl, v1, v2⟩
    rw [onesOf_eq (by omega), bnd_some, v2, s10 (by decide), s10 (by decide), w5, l161 (by omega), s10 (by decide), w17, l161 (by omega), s10 (by decide), l161 (by decide), s10 (by decide), s10 (by decide), s10 (by decide), l161 (by decide), s10 (by decide), ko_some]
    refine ⟨by repeat (first | exact Fm.rf | refine Fm.up ?_ (by decide) (by decide)), ten ?_ ?_ ?_ ?_ ?_ ?_ ?_ ?_ ?_ ?_⟩ <;> simp only [up_g, Nat.reduceEqDiff, Int.reduceEq, false_and, and_false, true_and, and_true, if_false, if_true, wT, hn, Int.toNat_natCast]
  · have ne : ¬ pe = -1 := by omega
    have w61 : w32 (61 + pe) = 61 + pe := w32_sm (by omega)
    have w101 : w32 (101 + pe) = 101 + pe := w32_sm (by omega)
    have w121 : w32 (121 + pe) = 121 + pe := w32_sm (by omega)
    have l20 : (0 : Int) ≤ pe ∧ pe < (20 : Nat) := by omega
    simp only [ne, if_false]
    rw [lod_eq l20, bnd_some, s10 (by decide), lod_eq l20, bnd_some, s10 (by decide), ko_bnd]
    refine ok_mono (sit _ _) ?_
    rintro r t ⟨rfl, v, rfl, v1, v2⟩
    rw [onesOf_eq (by omega), bnd_some, v2, s10 (by decide), w61, l161 (by omega), bnd_some, s10 (by decide), w5, l161 (by omega), s10 (by decide), w17, l161 (by omega), s10 (by decide), l161 (by decide), s10 (by decide), w101, l161 (by omega), bnd_some, s10 (by decide), w121, l161 (by omega), bnd_some, s10 (by decide), l161 (by decide), s10 (by decide), ko_some]
    refine ⟨by repeat (first | exact Fm.rf | refine Fm.up ?_ (by decide) (by decide)), ten ?_ ?_ ?_ ?_ ?_ ?_ ?_ ?_ ?_ ?_⟩ <;> simp only [up_g, Nat.reduceEqDiff, Int.reduceEq, false_and, and_false, true_and, and_true, if_false, if_true, wT, ne, hn, Int.toNat_natCast]
