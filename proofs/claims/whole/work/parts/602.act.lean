/-! ACT -/
theorem Rl.kept {σ τ σ' τ' : St} (fx : Fr kC σ σ') (fm : Fm [2] [3] τ τ') : (∀ k, k ≤ 51 → σ' k = σ k) ∧ τ' 1 = τ 1 ∧ τ' 0 6 = τ 0 6 ∧ τ' 0 7 = τ 0 7 := by
  refine ⟨fun k hk => fx k fun hm => ?_, fm.1 1 (by decide) (by decide), fm.2 6 (by decide), fm.2 7 (by decide)⟩
  unfold kC at hm
  simp only [List.mem_append, List.mem_cons, List.not_mem_nil, or_false, List.mem_map, List.mem_range] at hm
  omega
theorem s_act {σ τ : St} (h : Rl σ τ) {p1 p2 p3 : Int} : Sim (fX11_act p1 p2 p3 σ) (fX12_act p1 p2 p3 τ) := by
  unfold fX12_act
  refine sim_t0 h ?_
  clear h
  intro τ h
  have hm := h.mq
  obtain ⟨⟨a1, a2, a3, a4, a5, a6⟩, ⟨b1, b2, b3, b4, b5, b6⟩, hp, hq⟩ := h.c_RH
  show Ok2 _ _ fun r σ' r' τ' => r' = r ∧ Rl σ' τ'
  have no : Ok2 (some ((0 : Int), σ)) (some ((0 : Int), τ)) fun r σ' r' τ' => r' = r ∧ Rl σ' τ' := by
    rw [ok2_some]
    exact ⟨rfl, h⟩
  unfold fX11_act fX12_canAct
  by_cases c0 : p1 = 0
  · subst c0
    rw [if_pos rfl, if_pos rfl]
    unfold fX11_sitByHand
    rw [hasPerson_eq, isPerson_eq, bnd_some, bnd_some, a6]
    by_cases c1 : 0 ≤ p2 ∧ p2 < τ 0 7
    · rw [if_pos c1, if_neg (show ¬ ((1 : Int) = 0) by decide), if_neg (show ¬ ((1 : Int) = 0) by decide), hasPorch_eq, isPorch_eq, bnd_some, bnd_some, a5]
      by_cases c2 : 0 ≤ p3 ∧ p3 < τ 0 6
      · obtain ⟨_, _, q3, _, _, _, _, _, q9, q10, _⟩ := hq p2 c1.1 c1.2
        simp only [Nat.reduceAdd] at q3
        rw [if_pos c2, if_neg (show ¬ ((1 : Int) = 0) by decide), if_neg (show ¬ ((1 : Int) = 0) by decide), lod_eq (by omega), q3, freeChair_eq hm c2.1 c2.2, bnd_assoc]
        refine ok2_r (ok_mono (canSit_eq hm c1.1 c1.2 c2.1 c2.2) ?_)
        rintro r _ ⟨rfl, rfl⟩
        by_cases s : τ 1 (41 + p2) = 0
        · rw [if_pos (show τ 1 (41 + p2) - 1 = -1 by omega), bnd_some]
          by_cases d : σ 8 p3 < σ 4 p3
          · rw [if_pos d, if_pos (And.intro s d), if_neg (show ¬ ((1 : Int) = 0) by decide), if_neg (show ¬ ((1 : Int) = 0) by decide), bnd_some, if_neg (show ¬ ((1 : Int) = 0) by decide), row_size, bnd_some, bnd_assoc]
            refine ok2_bnd (ok2_mono (keep2 h) ?_)
            rintro _ σ2 _ τ2 ⟨h2, fx, fm⟩
            obtain ⟨k1, k2, k3, k4⟩ := Rl.kept fx fm
            rw [if_pos rfl, bnd_assoc, bnd_assoc]
            refine ok2_bnd (ok2_mono (seat2 h2.mq c1.1 (by rw [k4]; exact c1.2) c2.1 (by rw [k3]; exact c2.2) (by rw [k2]; exact s)) ?_)
            rintro _ σ3 _ τ3 g
            rw [bnd_some, bnd_some, if_neg (by decide), bnd_some, if_neg (by decide), bnd_some, if_neg (by decide), ok2_some]
            exact ⟨rfl, h2.mv g⟩
          · rw [if_neg d, if_pos rfl, if_neg (show ¬ (τ 1 (41 + p2) = 0 ∧ σ 8 p3 < σ 4 p3) from fun x => d x.2), if_pos rfl, bnd_some, bnd_some, if_pos rfl]
            exact no
        · rw [if_neg (show ¬ τ 1 (41 + p2) - 1 = -1 by omega), if_neg (show ¬ (τ 1 (41 + p2) = 0 ∧ σ 8 p3 < σ 4 p3) from fun x => s x.1), if_pos rfl, bnd_some, bnd_some, if_pos rfl]
          exact no
      · rw [if_neg c2, if_pos rfl, if_pos rfl, bnd_some, bnd_some, if_pos rfl]
        exact no
    · rw [if_neg c1, if_pos rfl, if_pos rfl, bnd_some, bnd_some, if_pos rfl]
      exact no
  by_cases c1 : p1 = 1
  · subst c1
    rw [if_neg c0, if_neg c0, if_pos rfl, if_pos rfl]
    unfold fX11_riseByHand fX12_doesSit
    rw [hasPerson_eq, isPerson_eq, bnd_some, bnd_some, a6]
    by_cases c1 : 0 ≤ p2 ∧ p2 < τ 0 7
    · obtain ⟨_, _, q3, _, _, _, _, _, q9, q10, _⟩ := hq p2 c1.1 c1.2
      simp only [Nat.reduceAdd] at q3
      rw [if_pos c1, if_neg (show ¬ ((1 : Int) = 0) by decide), if_neg (show ¬ ((1 : Int) = 0) by decide), lod_eq (by omega), q3, w32_sm (x := 41 + p2) (by omega), lod_eq (by omega)]
      by_cases s : 0 < τ 1 (41 + p2)
      · rw [if_neg (show ¬ τ 1 (41 + p2) - 1 = -1 by omega), if_pos s, bnd_some, if_neg (show ¬ ((1 : Int) = 0) by decide), bnd_some, if_neg (show ¬ ((1 : Int) = 0) by decide), row_size, bnd_some, bnd_assoc]
        refine ok2_bnd (ok2_mono (keep2 h) ?_)
        rintro _ σ2 _ τ2 ⟨h2, fx, fm⟩
        obtain ⟨k1, k2, k3, k4⟩ := Rl.kept fx fm
        rw [if_neg (by decide), bnd_some, if_pos rfl, bnd_assoc, bnd_assoc]
        refine ok2_bnd (ok2_mono (rise2 h2.mq c1.1 (by rw [k4]; exact c1.2)) ?_)
        rintro _ σ3 _ τ3 g
        rw [bnd_some, bnd_some, if_neg (by decide), bnd_some, if_neg (by decide), ok2_some]
        exact ⟨rfl, h2.mv g⟩
      · rw [if_pos (show τ 1 (41 + p2) - 1 = -1 by omega), if_neg s, bnd_some, bnd_some, if_pos rfl, bnd_some, if_pos rfl]
        exact no
    · rw [if_neg c1, if_pos rfl, if_pos rfl, bnd_some, bnd_some, if_pos rfl]
      exact no
  by_cases c2 : p1 = 2
  · subst c2
    rw [if_neg c0, if_neg c0, if_neg c1, if_neg c1, if_pos rfl, if_pos rfl]
    unfold fX11_sweepByHand
    rw [hasPorch_eq, isPorch_eq, bnd_some, bnd_some, a5]
    by_cases c2 : 0 ≤ p2 ∧ p2 < τ 0 6
    · rw [if_pos c2, if_neg (show ¬ ((1 : Int) = 0) by decide), if_neg (show ¬ ((1 : Int) = 0) by decide), bnx_inr, bnd_some, if_neg (show ¬ ((1 : Int) = 0) by decide), row_size, bnd_some, bnd_assoc]
      refine ok2_bnd (ok2_mono (keep2 h) ?_)
      rintro _ σ2 _ τ2 ⟨h2, fx, fm⟩
      obtain ⟨k1, k2, k3, k4⟩ := Rl.kept fx fm
      rw [if_neg (by decide), bnd_some, if_neg (by decide), bnd_some, if_pos rfl, bnd_assoc, bnd_assoc]
      refine ok2_bnd (ok2_mono (sweep2 h2.mq c2.1 (by rw [k3]; exact c2.2)) ?_)
      rintro _ σ3 _ τ3 g
      rw [bnd_some, bnd_some, if_neg (by decide), ok2_some]
      exact ⟨rfl, h2.mv g⟩
    · rw [if_neg c2, if_pos rfl, if_pos rfl, bnx_inl, if_neg (show ¬ ((2 : Int) = 3) by decide), bnd_some, bnd_some, if_pos rfl]
      exact no
  by_cases c3 : p1 = 3
  · subst c3
    rw [if_neg c0, if_neg c0, if_neg c1, if_neg c1, if_neg c2, if_neg c2, if_pos rfl, bnx_inl, if_pos rfl]
    unfold fX11_fillByHand
    rw [hasPorch_eq, isPorch_eq, bnd_some, bnd_some, a5]
    by_cases c2 : 0 ≤ p2 ∧ p2 < τ 0 6
    · rw [if_pos c2, if_neg (show ¬ ((1 : Int) = 0) by decide), if_neg (show ¬ ((1 : Int) = 0) by decide), within_eq, isIn_eq, bnd_some, bnd_some]
      by_cases c4 : 0 ≤ p3 ∧ p3 ≤ 99
      · rw [if_pos c4, if_neg (show ¬ ((1 : Int) = 0) by decide), if_neg (show ¬ ((1 : Int) = 0) by decide), bnd_some, if_neg (show ¬ ((1 : Int) = 0) by decide), row_size, bnd_some, bnd_assoc]
        refine ok2_bnd (ok2_mono (keep2 h) ?_)
        rintro _ σ2 _ τ2 ⟨h2, fx, fm⟩
        obtain ⟨k1, k2, k3, k4⟩ := Rl.kept fx fm
        rw [sto_eq (by omega), bnd_some, if_neg (show ¬ ((1 : Int) = 0) by decide), if_neg (by decide), bnd_some, if_neg (by decide), bnd_some, if_neg (by decide), bnd_some, if_pos rfl, w32_sm (x := 5 + p2) (by omega), sto_eq (by omega), ok2_some]
        exact ⟨rfl, h2.mv (Mv.nb h2.mq (by repeat (first | exact Fr.rf | exact fx | refine Fr.up ?_ (by decide))) (by repeat (first | exact Fm.rf | exact fm | exact fm.mono (by decide) (by decide) | refine Fm.u0 ?_ (by decide) | refine Fm.up ?_ (by decide) (by decide))) (by (simp only [up_g, Nat.reduceAdd, true_and, and_true, false_and, and_false, Nat.reduceEqDiff, if_false, if_true]) <;> (repeat (first | rw [if_neg (by omega)] | rw [if_pos (by omega)])) <;> (first | assumption | omega)) (h2.c_RH.lampc c2.1 (by rw [k3]; exact c2.2) c4.1 c4.2))⟩
      · rw [if_neg c4, if_pos rfl, if_pos rfl, bnd_some, bnd_some, if_pos rfl, if_pos rfl]
        exact no
    · rw [if_neg c2, if_pos rfl, if_pos rfl, bnd_some, bnd_some, if_pos rfl, if_pos rfl]
      exact no
  · rw [if_neg c0, if_neg c0, if_neg c1, if_neg c1, if_neg c2, if_neg c2, if_neg c3, bnx_inl, if_neg c3, bnd_some, if_pos rfl]
    exact no
