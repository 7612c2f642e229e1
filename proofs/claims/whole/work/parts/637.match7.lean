/-! MATCHED -/
theorem c_settled {f : Int → Int → Int} {σ τ : St} (hf : WP f) (w0 : σ 28 0 = 5) (w2 : σ 28 2 = 10) (hw : ∀ w k : Nat, w < 10 → k < 5 → σ 29 ((w : Int) * 5 + k) = f w k) (hW : WF f τ) : Ok (fX0_settled σ) fun r σ' => Fr [156] σ σ' ∧ r = smI (fun n => gS (τ 24) (puP n)) 120 := by
  unfold fX0_settled
  rw [ko_bnd]
  refine for_ok 120 (fun i x t => x = (smI (fun n => gS (τ 24) (puP n)) i, (i : Int)) ∧ Fr [156] σ t) (by decide) ⟨rfl, Fr.rf⟩ ?_ ?_
  · rintro i x t hi ⟨rfl, ft⟩
    have wi := (wq4 (i := i) (by omega)).1
    have bd := smI_bd (f := fun n => gS (τ 24) (puP n)) (B := 1) (n := i) fun j _ => by
      rcases gS_01 (D := τ 24) (P := puP j) with e | e <;> rw [e] <;> decide
    dsimp only
    rw [ko_t (by omega), ko_bnd]
    refine ok_mono (c_pairUp hi) ?_
    rintro _ s ⟨fs, hs⟩
    have fts := ft.tr fs
    have cs := c_isSettled (f := f) (σ := s) (τ := τ) (P := puP i) hf (by rw [fts 28 (by decide)]; exact w0) (by rw [fts 28 (by decide)]; exact w2) (fun w k hw1 hk => by rw [fts 29 (by decide)]; exact hw w k hw1 hk) hW fun j hj => ⟨hs j hj, (pu_bd i hi j hj).1⟩
    rw [cs, bnd_some]
    rcases gS_01 (D := τ 24) (P := puP i) with e | e
    · rw [e, ko_t rfl, ko_some, ko_jl, wi.o]
      refine ⟨?_, fts⟩
      rw [smI, e, Int.add_zero]
    · rw [e, ko_f (by decide), ko_some, ko_jl, wi.o, w32_sm (by omega)]
      refine ⟨?_, fts⟩
      rw [smI, e]
  · rintro x t ⟨rfl, ft⟩
    dsimp only
    rw [ko_f (by decide), ko_some, ko_jr, ko_some]
    exact ⟨ft, rfl⟩
theorem m_settled {τ : St} : Ok (fX12_settledWays τ) fun r τ' => Fm [28] [] τ τ' ∧ r = smI (fun t => gS (τ 24) (oL (LPl.getD t []))) 120 := by
  unfold fX12_settledWays
  rw [ko_bnd]
  refine for_ok 5 (fun i x t => x = (i : Int) ∧ Fm [28] [] τ t ∧ ∀ j : Nat, j < i → t 28 j = j) (by decide) ⟨rfl, Fm.rf, fun j h => absurd h (Nat.not_lt_zero j)⟩ ?_ ?_
  · rintro i x t hi ⟨rfl, ft, hj⟩
    have wi := (wq4 (i := i) (by omega)).1
    rw [ko_t (by omega), sto_eq (by omega), ko_some, ko_jl, wi.o]
    refine ⟨rfl, ft.up (by decide) (by decide), fun j h => ?_⟩
    simp only [up_g, true_and, and_true, false_and, and_false, Nat.reduceEqDiff, if_false, if_true]
    by_cases e : j = i
    · rw [if_pos (by omega), e]
    · rw [if_neg (by omega)]
      exact hj j (by omega)
  rintro x t ⟨rfl, ft, hj⟩
  rw [ko_f (by decide), ko_some, ko_jr, ko_bnd]
  have o0 : oP t (oL (LPl.getD 0 [])) := fun i hi => ⟨by rw [hj i hi, show oL (LPl.getD 0 []) i = i from five (P := fun i => oL (LPl.getD 0 []) i = i) rfl rfl rfl rfl rfl i hi], LP_bd 0 (by decide) i hi⟩
  refine for_ok 120 (fun i x s => x = (smI (fun t => gS (τ 24) (oL (LPl.getD t []))) i, if i < 120 then 1 else 0) ∧ Fm [28] [] τ s ∧ (i < 120 → oP s (oL (LPl.getD i [])))) (by decide) ⟨rfl, ft, fun _ => o0⟩ ?_ ?_
  · rintro i x s hi ⟨rfl, fs, ho⟩
    have bd := smI_bd (f := fun t => gS (τ 24) (oL (LPl.getD t []))) (B := 1) (n := i) fun j _ => by
      rcases gS_01 (D := τ 24) (P := oL (LPl.getD j [])) with e | e <;> rw [e] <;> decide
    have ms := m_isSettled (ho hi)
    rw [fs.1 24 (by decide) (by decide)] at ms
    have nx : smI (fun t => gS (τ 24) (oL (LPl.getD t []))) (i + 1) = smI (fun t => gS (τ 24) (oL (LPl.getD t []))) i + gS (τ 24) (oL (LPl.getD i [])) := rfl
    dsimp only
    rw [if_pos hi, ko_f (by decide), ms, bnd_some, ko_bnd]
    refine ok_mono (P := fun r s' => s = s' ∧ r = smI (fun t => gS (τ 24) (oL (LPl.getD t []))) (i + 1)) ?_ ?_
    · rcases gS_01 (D := τ 24) (P := oL (LPl.getD i [])) with e | e
      · rw [e, ko_t rfl, ko_some, nx, e, Int.add_zero]
        exact ⟨rfl, rfl⟩
      · rw [e, ko_f (by decide), ko_lb, ko_some, nx, e, w32_sm (by omega)]
        exact ⟨rfl, rfl⟩
    rintro r _ ⟨rfl, rfl⟩
    rw [ko_bnd]
    refine ok_mono (m_next (ho hi)) ?_
    rintro r s2 ⟨f2, h2⟩
    rw [ko_some, ko_jl]
    by_cases c : i < 119
    · have ln := LP_next i c
      cases hn : npP (oL (LPl.getD i [])) with
      | none =>
        have := ln 0 (by decide)
        rw [hn] at this
        cases this
      | some Q =>
        rw [hn] at h2 ln
        obtain ⟨rfl, hQ⟩ := h2
        refine ⟨by rw [if_pos (by omega)], fs.tr f2, fun _ j hj => ?_⟩
        have e : Q j = oL (LPl.getD (i + 1) []) j := by
          have := ln j hj
          exact Option.some.inj this
        rw [← e]
        exact hQ j hj
    · have e : i = 119 := by omega
      subst e
      have ll := LP_last
      cases hn : npP (oL (LPl.getD 119 [])) with
      | none =>
        rw [hn] at h2
        have h2 : r = 0 := h2
        refine ⟨by rw [h2]; rfl, fs.tr f2, fun h => absurd h (by decide)⟩
      | some Q =>
        rw [hn] at ll
        cases ll
  · rintro x s ⟨rfl, fs, _⟩
    dsimp only
    rw [if_neg (show ¬ ((120 : Nat) < 120) by decide), ko_t rfl, ko_some, ko_jr, ko_some]
    exact ⟨fs, rfl⟩
theorem s_matched {σ τ : St} (h : Rl σ τ) {p1 p2 p3 : Int} : Sim (fX11_matched p1 p2 p3 σ) (fX12_matched p1 p2 p3 τ) := by
  unfold fX12_matched
  refine sim_t0 h ?_
  clear h
  intro τ h
  refine Sim.of h ?_
  obtain ⟨w0, w2, hr⟩ := h.c_RWish
  simp only [Nat.reduceAdd] at w0 w2 hr
  clear h
  have hf : WP (fun w k => σ 29 (w * 5 + k)) := fun w hw => by
    have q := (hr w (by omega) (by omega)).2
    show isP (σ 29 ((w : Int) * 5 + 0)) _ _ _ _
    rw [Int.add_zero]
    exact q
  have hw : ∀ w k : Nat, w < 10 → k < 5 → σ 29 ((w : Int) * 5 + k) = (fun w k => σ 29 (w * 5 + k)) (w : Int) (k : Int) := fun _ _ _ _ => rfl
  refine ok2_r (ok_mono (m_finds hf fun w hw => ?_) ?_)
  · have q := (hr w (by omega) (by omega)).1
    show τ 23 (w : Int) + 1234 = σ 29 ((w : Int) * 5 + 0) * 10000 + σ 29 ((w : Int) * 5 + 1) * 1000 + σ 29 ((w : Int) * 5 + 2) * 100 + σ 29 ((w : Int) * 5 + 3) * 10 + σ 29 ((w : Int) * 5 + 4)
    rw [Int.add_zero]
    exact q
  rintro _ t ⟨ft, hW⟩
  have fm0 : Fm wM wJ τ t := ft.mono (by decide) (by decide)
  unfold fX11_matched
  by_cases c : p1 = -1
  · rw [if_pos c, if_pos c]
    refine ok2_bnd (ok_mono (c_settled hf w0 w2 hw hW) ?_)
    rintro r σ' ⟨fx, er⟩
    refine ok_mono m_settled ?_
    rintro r' τ' ⟨fm, er'⟩
    rw [ok2_some]
    exact ⟨(er'.trans (count_eq _).symm).trans er.symm, fx.mono (by decide), fm0.tr (fm.mono (by decide) (by decide))⟩
  · rw [if_neg c, if_neg c, within_eq, isIn_eq, bnd_some, bnd_some]
    have no : Ok2 (some ((-1 : Int), σ)) (some ((-1 : Int), t)) fun r σ' r' τ' => r' = r ∧ Fr wX σ σ' ∧ Fm wM wJ τ τ' := by
      rw [ok2_some]
      exact ⟨rfl, Fr.rf, fm0⟩
    by_cases d1 : 0 ≤ p1 ∧ p1 ≤ 1
    · rw [if_pos d1, if_neg (show ¬ ((1 : Int) = 0) by decide), if_neg (show ¬ ((1 : Int) = 0) by decide), within_eq, isIn_eq, bnd_some, bnd_some]
      by_cases d2 : 0 ≤ p2 ∧ p2 ≤ 4
      · rw [if_pos d2, if_neg (show ¬ ((1 : Int) = 0) by decide), if_neg (show ¬ ((1 : Int) = 0) by decide), within_eq, isIn_eq, bnd_some, bnd_some]
        by_cases d3 : 0 ≤ p3 ∧ p3 ≤ 1
        · rw [if_pos d3, if_neg (show ¬ ((1 : Int) = 0) by decide), if_neg (show ¬ ((1 : Int) = 0) by decide)]
          obtain ⟨a, rfl⟩ : ∃ a : Nat, p3 = a := ⟨p3.toNat, by omega⟩
          unfold fX0_partner
          rw [bnd_assoc]
          refine ok2_l (ok_mono (eng2 hf w0 w2 hw hW (by omega)) ?_)
          rintro _ s ⟨t2, e2, fs, f2, hj⟩
          have fX : Fr wX σ s := fs.mono (by decide)
          have fM : Fm wM wJ τ t2 := fm0.tr (f2.mono (by decide) (by decide))
          rw [e2, bnd_some]
          by_cases e : p1 = a
          · rw [if_pos e, bnd_id]
            refine ok2_bnx (ok2_for 5 (fun i x s' y t' => x = (i : Int) ∧ y = (i : Int) ∧ s = s' ∧ t2 = t') (by decide) ⟨rfl, rfl, rfl, rfl⟩ ?_ ?_)
            · rintro i x _ y _ hi ⟨rfl, rfl, rfl, rfl⟩
              have wi := (wq4 (i := i) (by omega)).1
              rw [if_pos (show (i : Int) < 5 by omega), if_pos (show (i : Int) < 5 by omega), if_pos e, lod_eq (k := 155) (by omega), lod_eq (k := 26) (by omega), hj i hi]
              by_cases q : t2 26 (i : Int) = p2
              · rw [if_pos q, if_pos q, bnx_inr, ok2_some]
                show Ok2 (some ((i : Int), s)) (some ((i : Int), t2)) _
                rw [ok2_some]
                exact ⟨rfl, fX, fM⟩
              · rw [if_neg q, if_neg q, bnx_inl, if_pos e, ok2_some, wi.o]
                exact ⟨rfl, rfl, rfl, rfl⟩
            · rintro x _ y _ ⟨rfl, rfl, rfl, rfl⟩
              rw [if_neg (by decide), if_neg (by decide), ok2_some]
              exact ⟨rfl, fX, fM⟩
          · obtain ⟨q, rfl⟩ : ∃ q : Nat, p2 = q := ⟨p2.toNat, by omega⟩
            rw [if_neg e, bnd_id, lod_eq (by omega)]
            refine ok_mono (P := fun r s' => s = s' ∧ r = s 155 (q : Int)) ?_ ?_
            · rw [ko_bnx]
              refine for_ok q (fun i x s' => x = (i : Int) ∧ s = s') (by omega) ⟨rfl, rfl⟩ ?_ ?_
              · rintro i x _ hi ⟨rfl, rfl⟩
                have wi := (wq4 (i := i) (by omega)).1
                rw [ko_t (by omega), if_neg e, bnx_inl, if_neg e, if_neg (by omega), ko_some, ko_jl, wi.o]
                exact ⟨rfl, rfl⟩
              · rintro x _ ⟨rfl, rfl⟩
                rw [ko_t (by omega), if_neg e, bnx_inl, if_neg e, if_pos rfl, lod_eq (by omega), ko_some, ko_jr, ko_jr]
                exact ⟨rfl, rfl⟩
            · rintro r _ ⟨rfl, rfl⟩
              rw [ko_some]
              exact ⟨(hj q (by omega)).symm, fX, fM⟩
        · rw [if_neg d3, if_pos rfl, if_pos rfl]
          exact no
      · rw [if_neg d2, if_pos rfl, if_pos rfl]
        exact no
    · rw [if_neg d1, if_pos rfl, if_pos rfl]
      exact no
