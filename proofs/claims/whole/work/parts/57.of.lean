/-! OF -/
/-- speaking, told by both -/
theorem speaks2 {σ τ : St} (hR : RH σ 3 τ) (hL : RLaw σ 17 τ) {p1 : Int} (c1 : 0 ≤ p1 ∧ p1 < τ 0 7) (hs : 0 < τ 1 (41 + p1)) : Ok2 (fX3_tells 260 p1 (τ 1 (41 + p1) - 1) σ) (fX12_speaksOf p1 τ) fun v σ' v' τ' => v' = v ∧ Fr [150, 151] σ σ' ∧ Fm [21, 22] [] τ τ' := by
  have b := hR.2.1
  obtain ⟨_, _, _, _, _, _, _, _, u1, u2, _, _, q1, q2, _⟩ := hR.2.2.2 p1 c1.1 c1.2
  have w41 : w32 (41 + p1) = 41 + p1 := w32_sm (by omega)
  have ws : w32 (τ 1 (41 + p1) - 1) = τ 1 (41 + p1) - 1 := w32_sm (by omega)
  have ne : ¬ p1 = -1 := by omega
  have c2 : 0 ≤ τ 1 (41 + p1) - 1 ∧ τ 1 (41 + p1) - 1 < τ 0 6 := by omega
  unfold fX12_speaksOf fX12_sitsOn
  rw [w41, lod_eq (by omega), bnd_some, ws]
  generalize τ 1 (41 + p1) - 1 = p2 at *
  have e0 : wT τ p1 p2 0 = τ 5 p1 := by
    unfold wT
    rw [if_pos rfl, if_neg ne]
  have ct := c_tells (p := 0) (c := 1000) (d := w32 (60 * τ 5 p1)) hL (by decide) rfl (by rw [e0]; rfl) (c_look (pe := p1) (po := p2) hR (Or.inr c1) c2)
  refine ok_mono ct ?_
  rintro v σ' ⟨fx, hv⟩
  rw [ko_bnd]
  refine ok_mono (m_asks (pe := p1) (po := p2) hR (Or.inr c1) c2) ?_
  rintro _ t ⟨fm, hW⟩
  rw [lod_eq (by decide), hW 0 (by decide) (by decide), e0, ko_bnd]
  have hL2 : RLaw σ 17 t := hL.cg (C := []) (D := [21]) (J := []) Fr.rf fm (by decide)
  have w6 : w32 (60 * τ 5 p1) = 60 * τ 5 p1 := w32_sm (by omega)
  refine ok_mono (m_law (p := 0) (d := w32 (60 * τ 5 p1)) (c := 1000) hL2 (by rw [w6]; omega) hW) ?_
  rintro v' t' ⟨fm2, hv'⟩
  have key : lawV t (wT τ p1 p2) 0 (w32 (60 * τ 5 p1)) 1000 v := by
    unfold lawV firstL fitL at hv ⊢
    rw [fm.1 10 (by decide) (by decide), fm.1 11 (by decide) (by decide), fm.1 12 (by decide) (by decide), fm.1 13 (by decide) (by decide), fm.1 14 (by decide) (by decide), fm.1 15 (by decide) (by decide), fm.1 16 (by decide) (by decide)]
    exact hv
  rw [ko_some]
  exact ⟨lawV_uniq hv' key, fx, (fm.mono (by decide) (by decide)).tr (fm2.mono (by decide) (by decide))⟩
theorem s_of {σ τ : St} (h : Rl σ τ) {p1 p2 : Int} : Sim (fX11_of p1 p2 σ) (fX12_of p1 p2 τ) := by
  unfold fX12_of
  refine sim_t0 h ?_
  clear h
  intro τ h
  refine Sim.of h ?_
  have hR := h.c_RH
  have hL := h.c_RLaw
  clear h
  have b6 := hR.1.2.2.2.2.2
  have bb := hR.2.1
  unfold fX11_of
  rw [hasPerson_eq, isPerson_eq, b6]
  by_cases c1 : 0 ≤ p1 ∧ p1 < τ 0 7
  · rw [if_pos c1, bnd_some, bnd_some, if_neg (show ¬ ((1 : Int) = 0) by decide), if_neg (show ¬ ((1 : Int) = 0) by decide)]
    obtain ⟨q1, q2, q3, q4, q5, q6, q7, q8, u1, u2, u3, u4, _⟩ := hR.2.2.2 p1 c1.1 c1.2
    simp only [Nat.reduceAdd] at q1 q2 q3 q4 q5 q6 q7 q8
    have l20 : (0 : Int) ≤ p1 ∧ p1 < (20 : Nat) := by omega
    have w41 : w32 (41 + p1) = 41 + p1 := w32_sm (by omega)
    have w61 : w32 (61 + p1) = 61 + p1 := w32_sm (by omega)
    have w101 : w32 (101 + p1) = 101 + p1 := w32_sm (by omega)
    have w121 : w32 (121 + p1) = 121 + p1 := w32_sm (by omega)
    have w141 : w32 (141 + p1) = 141 + p1 := w32_sm (by omega)
    have v41 : w32 (τ 1 (41 + p1) - 1) = τ 1 (41 + p1) - 1 := w32_sm (by omega)
    have v141 : w32 (τ 1 (141 + p1) - 1) = τ 1 (141 + p1) - 1 := w32_sm (by omega)
    have l161 : ∀ {β : Type} {i : Int} {g : Int → Rs β}, 0 ≤ i ∧ i < 161 → lod τ 1 161 i g = g (τ 1 i) := fun {β i g} h => lod_eq (by omega)
    by_cases d0 : p2 = 0
    · subst d0
      simp only [Int.reduceEq, if_true, if_false]
      rw [lod_eq l20, lod_eq l20, ok2_some]
      exact ⟨q1.symm, Fr.rf, Fm.rf⟩
    by_cases d1 : p2 = 1
    · subst d1
      simp only [Int.reduceEq, if_true, if_false]
      rw [lod_eq l20, lod_eq l20, ok2_some]
      exact ⟨q2.symm, Fr.rf, Fm.rf⟩
    by_cases d2 : p2 = 2
    · subst d2
      simp only [Int.reduceEq, if_true, if_false, fX12_sitsOn]
      rw [lod_eq l20, w41, l161 (by omega), bnd_some, ok2_some, v41]
      exact ⟨q3.symm, Fr.rf, Fm.rf⟩
    by_cases d3 : p2 = 3
    · subst d3
      simp only [Int.reduceEq, if_true, if_false]
      rw [lod_eq l20, w61, l161 (by omega), ok2_some]
      exact ⟨q4.symm, Fr.rf, Fm.rf⟩
    by_cases d4 : p2 = 4
    · subst d4
      simp only [Int.reduceEq, if_true, if_false]
      rw [lod_eq l20, w101, l161 (by omega), ok2_some]
      exact ⟨q6.symm, Fr.rf, Fm.rf⟩
    by_cases d5 : p2 = 5
    · subst d5
      simp only [Int.reduceEq, if_true, if_false]
      rw [lod_eq l20, w121, l161 (by omega), ok2_some]
      exact ⟨q7.symm, Fr.rf, Fm.rf⟩
    by_cases d6 : p2 = 6
    · subst d6
      simp only [Int.reduceEq, if_true, if_false]
      rw [lod_eq l20, w141, l161 (by omega), ok2_some, v141]
      exact ⟨q8.symm, Fr.rf, Fm.rf⟩
    by_cases d7 : p2 = 7
    · subst d7
      simp only [Int.reduceEq, if_true, if_false, fX12_doesSit]
      rw [lod_eq l20, w41, l161 (by omega), q3]
      by_cases s : 0 < τ 1 (41 + p1)
      · rw [if_neg (by omega), if_pos s, bnd_some, if_neg (by decide), lod_eq l20, q3]
        refine ok2_bnd (ok2_mono (speaks2 hR hL c1 s) ?_)
        rintro v σ' v' τ' ⟨rfl, fx, fm⟩
        rw [ok2_some]
        exact ⟨rfl, fx.mono (by decide), fm.mono (by decide) (by decide)⟩
      · rw [if_pos (by omega), if_neg s, bnd_some, if_pos rfl, ok2_some]
        exact ⟨rfl, Fr.rf, Fm.rf⟩
    · simp only [d0, d1, d2, d3, d4, d5, d6, d7, if_false]
      rw [ok2_some]
      exact ⟨rfl, Fr.rf, Fm.rf⟩
  · rw [if_neg c1, bnd_some, bnd_some, if_pos rfl, if_pos rfl, ok2_some]
    exact ⟨rfl, Fr.rf, Fm.rf⟩
