/-! HEARS -/
theorem s_hears {σ τ : St} (h : Rl σ τ) {p1 p2 : Int} : Sim (fX11_hears p1 p2 σ) (fX12_hears p1 p2 τ) := by
  unfold fX12_hears
  refine sim_t0 h ?_
  clear h
  intro τ h
  refine Sim.of h ?_
  have hR := h.c_RH
  have hL := h.c_RLaw
  clear h
  have b5 := hR.1.2.2.2.2.1
  have b6 := hR.1.2.2.2.2.2
  unfold fX11_hears
  rw [hasPerson_eq, isPerson_eq, b6]
  by_cases c1 : 0 ≤ p1 ∧ p1 < τ 0 7
  · rw [if_pos c1, bnd_some, bnd_some, if_neg (show ¬ ((1 : Int) = 0) by decide), if_neg (show ¬ ((1 : Int) = 0) by decide), hasPorch_eq, isPorch_eq, b5]
    by_cases c2 : 0 ≤ p2 ∧ p2 < τ 0 6
    · rw [if_pos c2, bnd_some, bnd_some, if_neg (show ¬ ((1 : Int) = 0) by decide), if_neg (show ¬ ((1 : Int) = 0) by decide)]
      obtain ⟨_, _, _, _, _, _, _, _, _, _, _, _, _, _, q1, q2⟩ := hR.2.2.2 p1 c1.1 c1.2
      have ne : ¬ p1 = -1 := by omega
      have e1 : wT τ p1 p2 1 = τ 6 p1 := by
        unfold wT
        rw [if_neg (by decide), if_pos rfl, if_neg ne]
      have ct := c_tells (p := 1) (c := 1000) (d := w32 (100 * τ 6 p1)) hL (by decide) rfl (by rw [e1]; rfl) (c_look (pe := p1) (po := p2) hR (Or.inr c1) c2)
      refine ok2_l (ok_mono ct ?_)
      rintro v σ' ⟨fx, hv⟩
      unfold fX12_hearsOf
      rw [bnd_assoc]
      refine ok2_r (ok_mono (m_asks (pe := p1) (po := p2) hR (Or.inr c1) c2) ?_)
      rintro _ t ⟨fm, hW⟩
      rw [lod_eq (by decide), hW 1 (by decide) (by decide), e1, bnd_assoc]
      have hL2 : RLaw σ 17 t := hL.cg (C := []) (D := [21]) (J := []) Fr.rf fm (by decide)
      have w6 : w32 (100 * τ 6 p1) = 100 * τ 6 p1 := w32_sm (by omega)
      refine ok2_r (ok_mono (m_law (p := 1) (d := w32 (100 * τ 6 p1)) (c := 1000) hL2 (by rw [w6]; omega) hW) ?_)
      rintro v' t' ⟨fm2, hv'⟩
      have key : lawV t (wT τ p1 p2) 1 (w32 (100 * τ 6 p1)) 1000 v := by
        unfold lawV firstL fitL at hv ⊢
        rw [fm.1 10 (by decide) (by decide), fm.1 11 (by decide) (by decide), fm.1 12 (by decide) (by decide), fm.1 13 (by decide) (by decide), fm.1 14 (by decide) (by decide), fm.1 15 (by decide) (by decide), fm.1 16 (by decide) (by decide)]
        exact hv
      simp only [bnd_some]
      rw [ok2_some]
      exact ⟨lawV_uniq hv' key, fx.mono (by decide), (fm.mono (by decide) (by decide)).tr (fm2.mono (by decide) (by decide))⟩
    · rw [if_neg c2, bnd_some, bnd_some, if_pos rfl, if_pos rfl, ok2_some]
      exact ⟨rfl, Fr.rf, Fm.rf⟩
  · rw [if_neg c1, bnd_some, bnd_some, if_pos rfl, if_pos rfl, ok2_some]
    exact ⟨rfl, Fr.rf, Fm.rf⟩
