/-! PORCHOF -/
theorem spins2 {σ τ : St} (hR : RH σ 3 τ) (hL : RLaw σ 17 τ) {p1 : Int} (c2 : 0 ≤ p1 ∧ p1 < τ 0 6) : Ok2 (fX3_tells 262 (-1) p1 σ) (fX12_spinsOf p1 τ) fun v σ' v' τ' => v' = v ∧ Fr [150, 151] σ σ' ∧ Fm [21, 22] [] τ τ' := by
  unfold fX12_spinsOf
  have ct := c_tells (p := 2) (c := 9) (d := 1) hL (by decide) rfl rfl (c_look (pe := -1) (po := p1) hR (Or.inl rfl) c2)
  refine ok_mono ct ?_
  rintro v σ' ⟨fx, hv⟩
  rw [ko_bnd]
  refine ok_mono (m_asks (pe := -1) (po := p1) hR (Or.inl rfl) c2) ?_
  rintro _ t ⟨fm, hW⟩
  rw [ko_bnd]
  have hL2 : RLaw σ 17 t := hL.cg (C := []) (D := [21]) (J := []) Fr.rf fm (by decide)
  refine ok_mono (m_law (p := 2) (d := 1) (c := 9) hL2 (by decide) hW) ?_
  rintro v' t' ⟨fm2, hv'⟩
  have key : lawV t (wT τ (-1) p1) 2 1 9 v := by
    unfold lawV firstL fitL at hv ⊢
    rw [fm.1 10 (by decide) (by decide), fm.1 11 (by decide) (by decide), fm.1 12 (by decide) (by decide), fm.1 13 (by decide) (by decide), fm.1 14 (by decide) (by decide), fm.1 15 (by decide) (by decide), fm.1 16 (by decide) (by decide)]
    exact hv
  rw [ko_some]
  exact ⟨lawV_uniq hv' key, fx, (fm.mono (by decide) (by decide)).tr (fm2.mono (by decide) (by decide))⟩
