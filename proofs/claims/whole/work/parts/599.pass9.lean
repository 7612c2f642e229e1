/-! a minute goes by -/
theorem pass2 {t : Int} {σ τ : St} (h : MQm t (up σ 152 4 t) τ) : Ok2 (fX1_pass t σ) (fX12_goesBy τ) fun r σ' r' τ' => r' = r ∧ ∃ s, σ' = up s 152 4 0 ∧ Mv t (up σ 152 4 t) τ s τ' := by
  unfold fX1_pass fX12_goesBy
  rw [put_eq, fld_eq, lod_eq (by decide), h.1.1.2.1]
  generalize up σ 152 4 t = σ at h ⊢
  refine ok2_bnd (ok2_mono (P := fun _ σ1 _ τ1 => Mv t σ τ σ1 τ1) ?_ ?_)
  · by_cases c : τ 1 1 = 0
    · rw [if_pos c, if_pos c]
      refine ok2_bnd (ok2_mono (begins2 h) ?_)
      rintro _ σ1 _ τ1 g
      rw [ok2_some]
      exact g
    · rw [if_neg c, if_neg c, ok2_some]
      exact Mv.rf h
  rintro _ σ1 _ τ1 g1
  refine calls2 g1.1 ?_
  intro _ _ σ2 τ2 g2
  have g2 := g1.tr g2
  clear g1
  obtain ⟨M, hM⟩ : ∃ M : Nat, τ2 0 7 = M := ⟨(τ2 0 7).toNat, by have := g2.1.1.2.1.2.2.1; omega⟩
  have M20 : M ≤ 20 := by have := g2.1.1.2.1.2.2.2.1; omega
  refine ok2_bnd (ok2_for M (fun i x σ' y τ' => (∃ n : Int, x = (n, (i : Int)) ∧ y = (n, (i : Int))) ∧ Mv t σ2 τ2 σ' τ') (by omega) ⟨⟨0, rfl, rfl⟩, Mv.rf g2.1⟩ ?_ ?_)
  · rintro i x σ' y τ' hi ⟨⟨n, rfl, rfl⟩, g⟩
    have hM' : τ' 0 7 = M := (g.2.2.1.2 7 (by decide)).trans hM
    have a6 : σ' 3 5 = M := (g.1.1.1.2.2.2.2.2).trans hM'
    have wi := (wq4 (i := i) (by omega)).1
    dsimp only
    rw [fld_eq, fld_eq, a6, hM', if_pos (show (i : Int) < (M : Int) by omega), if_pos (show (i : Int) < (M : Int) by omega), wi.o]
    refine speak2 g.1 (p := (i : Int)) (by omega) ?_ ?_
    · intro σ3 τ3 g3
      rw [ok2_some]
      exact ⟨⟨n, rfl, rfl⟩, g.tr g3⟩
    · intro σ3 τ3 g3
      rw [lb_eq, ok2_some]
      exact ⟨⟨_, rfl, rfl⟩, g.tr g3⟩
  · rintro x σ' y τ' ⟨⟨n, rfl, rfl⟩, g⟩
    have hM' : τ' 0 7 = M := (g.2.2.1.2 7 (by decide)).trans hM
    have a6 : σ' 3 5 = M := (g.1.1.1.2.2.2.2.2).trans hM'
    dsimp only
    rw [fld_eq, fld_eq, a6, hM', if_neg (by omega), if_neg (by omega), ok2_some]
    show Ok2 (bnd _ _) (bnd _ _) _
    have g3 := g2.tr g
    refine stay2 g3.1 ?_
    intro _ _ σ4 τ4 g4
    refine burn2 g4.1 ?_
    intro _ _ σ5 τ5 g5
    refine spin2 g5.1 ?_
    intro _ _ σ6 τ6 g6
    refine clock2 g6.1 ?_
    intro _ σ7 τ7 g7
    rw [put_eq, ok2_some]
    exact ⟨rfl, σ7, rfl, g3.tr (g4.tr (g5.tr (g6.tr g7)))⟩
