/-! more of what is told by one call -/
theorem Rl.set_RH_RU_RF {σ σ' τ τ' : St} (h : Rl σ τ) (fx : Fr [3, 4, 5, 6, 7, 8, 9, 10, 11, 12, 13, 14, 15, 16, 17, 52, 53, 54, 55, 56, 57, 58, 59, 60, 61, 62, 63, 64, 65, 66, 67, 68, 69, 70, 71, 72, 73, 74, 75, 76, 77, 78, 79, 80, 81, 82, 83, 84, 85, 86, 87, 88, 89, 90, 91, 92, 93, 94, 95, 96, 97, 98, 99, 100, 101, 102, 103, 104, 105, 106, 107, 108, 109, 110, 111, 112, 113, 114, 115, 116, 117, 118, 119, 120, 121, 122, 123, 124, 125, 126, 127, 128, 129, 130, 131, 132, 133, 134, 135, 136, 137, 138, 139, 141, 143, 144, 145, 146, 147, 148, 149, 150, 151, 153, 154, 155, 156, 157, 158, 159, 160, 161, 162, 163, 164, 165, 166, 167, 168, 169, 170, 171, 172, 173, 174, 175, 176, 177, 178, 179, 180, 181, 182, 183, 184] σ σ') (fm : Fm [2, 3, 4, 5, 6, 17, 21, 22, 24, 25, 26, 27, 28, 35, 37, 38, 41, 44, 47, 48, 49, 50, 51, 52, 53, 54, 55] [0, 1, 2, 3, 4, 8, 9, 10, 11, 12, 14, 15, 16, 17, 18, 19, 20, 21, 22, 23, 24, 25, 26, 27, 28, 29, 30, 31, 32, 33, 34, 36, 38, 40, 41, 42, 43, 44, 45, 46, 47, 48, 50, 51, 53, 54, 55, 56, 57, 59, 60, 61, 63, 65, 66, 67, 68, 69, 71, 73, 74, 75, 76, 77, 78, 79, 80, 81, 82, 83, 85, 86] τ τ') (n_RH : RH σ' 3 τ') (n_RU : RU σ' τ') (n_RF : RF σ' τ') : Rl σ' τ' := by
  obtain ⟨h0, h1, h2, h3, h4, h5, h6, h7, h8, h9, h10, h11, h12, h13, h14, h15, h16, h17, h18, h19⟩ := h
  exact ⟨n_RH, h1.cg fx fm (by decide), h2.cg fx fm (by decide), h3.cg fx fm (by decide), h4.cg fx fm (by decide), h5.cg fx fm (by decide), h6.cg fx fm (by decide), h7.cg fx fm (by decide), h8.cg fx fm (by decide), h9.cg fx fm (by decide), h10.cg fx fm (by decide), h11.cg fx fm (by decide), h12.cg fx fm (by decide), h13.cg fx fm (by decide), h14.cg fx fm (by decide), n_RU, h16.cg fx fm (by decide), h17.cg fx fm (by decide), n_RF, h19.cg fx fm (by decide)⟩
theorem s_fault {σ τ : St} (h : Rl σ τ) {p1 : Int} : Sim (fX11_fault p1 σ) (fX12_fault p1 τ) := by
  unfold fX12_fault
  refine sim_t0 h ?_
  clear h
  intro τ h
  obtain ⟨f1, f2⟩ := h.c_RF
  unfold Sim fX11_fault fX5_faultKind fX5_faultPlace
  simp only [ko_some, ko_none, ko_if, ko_bnd, ko_bnx, ko_lod, ko_sto, ko_stb, ko_fld, ko_put, ko_lb, ko_dvc, ko_loa, ko_cpy, ko_jl, ko_jr, i01, i10, up_g, if_false, if_true, Int.reduceEq, Nat.reduceEqDiff, Classical.not_not, within_eq, isIn_eq, hasPorch_eq, hasPerson_eq, isPorch_eq, isPerson_eq, not_true_eq_false, not_false_eq_true, true_and, and_true, false_and, and_false, false_imp_iff, true_imp_iff, implies_true]
  repeat' (first | (with_reducible apply And.intro) | intro _)
  all_goals (try (first | (exfalso; omega) | omega | rfl | exact h))
theorem s_end {σ τ : St} (h : Rl σ τ) {p1 : Int} : Sim (fX11_end p1 σ) (fX12_end p1 τ) := by
  unfold fX12_end
  refine sim_t0 h ?_
  clear h
  intro τ h
  obtain ⟨⟨f1, f2, f3⟩, f4⟩ := h.c_RP
  unfold Sim fX11_end fX7_cut
  simp only [ko_some, ko_none, ko_if, ko_bnd, ko_bnx, ko_lod, ko_sto, ko_stb, ko_fld, ko_put, ko_lb, ko_dvc, ko_loa, ko_cpy, ko_jl, ko_jr, i01, i10, up_g, if_false, if_true, Int.reduceEq, Nat.reduceEqDiff, Classical.not_not, within_eq, isIn_eq, hasPorch_eq, hasPerson_eq, isPorch_eq, isPerson_eq, not_true_eq_false, not_false_eq_true, true_and, and_true, false_and, and_false, false_imp_iff, true_imp_iff, implies_true]
  repeat' (first | (with_reducible apply And.intro) | intro _)
  all_goals (try (first | (exfalso; omega) | omega | rfl | exact h))
  refine h.set_RP (by repeat (first | exact Fr.rf | exact fx | refine Fr.up ?_ (by decide))) (by repeat (first | exact Fm.rf | exact fm | exact fm.mono (by decide) (by decide) | refine Fm.u0 ?_ (by decide) | refine Fm.up ?_ (by decide) (by decide))) ⟨⟨rfl, ?_, ?_⟩, fun i i0 i1 => f4 i i0 ?_⟩
  · show 0 ≤ p1; omega
  · show p1 ≤ 400; omega
  · have : i < p1 := i1
    show i < τ 0 13
    omega
theorem s_book {σ τ : St} (h : Rl σ τ) {p1 p2 : Int} : Sim (fX11_book p1 p2 σ) (fX12_book p1 p2 τ) := by
  unfold fX12_book
  refine sim_t0 h ?_
  clear h
  intro τ h
  obtain ⟨⟨w0, w1, w2, w3⟩, w4⟩ := h.c_RB
  simp only [Nat.reduceAdd] at w4
  have e0 : w32 (τ 1 3 - 1) = τ 1 3 - 1 := w32_sm (by omega)
  unfold Sim fX11_book
  rw [row_get w0 (by omega) (by omega) (by omega)]
  simp only [e0, w1, ko_some, ko_none, ko_if, ko_bnd, ko_bnx, ko_lod, ko_sto, ko_stb, ko_fld, ko_put, ko_lb, ko_dvc, ko_loa, ko_cpy, ko_jl, ko_jr, i01, i10, up_g, if_false, if_true, Int.reduceEq, Nat.reduceEqDiff, Classical.not_not, within_eq, isIn_eq, hasPorch_eq, hasPerson_eq, isPorch_eq, isPerson_eq, not_true_eq_false, not_false_eq_true, true_and, and_true, false_and, and_false, false_imp_iff, true_imp_iff, implies_true]
  repeat' (first | (with_reducible apply And.intro) | intro _)
  all_goals (try (first | (exfalso; omega) | omega | rfl | exact h))
  · rw [w32_sm (by rw [w32_sm (by omega)]; omega), w32_sm (by omega)]; omega
  · rw [w32_sm (by rw [w32_sm (by omega)]; omega), w32_sm (by omega)]; omega
  · rw [w32_sm (by rw [w32_sm (by omega)]; omega), w32_sm (by omega), if_pos (by omega), ← w4 _ (by omega) (by omega), Int.mul_comm]
theorem s_chair {σ τ : St} (h : Rl σ τ) {p1 p2 : Int} : Sim (fX11_chair p1 p2 σ) (fX12_chair p1 p2 τ) := by
  unfold fX12_chair
  refine sim_t0 h ?_
  clear h
  intro τ h
  obtain ⟨⟨w0, w1, w2, w3⟩, w4⟩ := h.c_RChair
  simp only [Nat.reduceAdd] at w0 w1 w4
  have ha := row_add (ro := 30) (rc := 31) (rn := 10) (a := p1) (b := p2) (c := 0) (d := 0) (e := 0) (by decide) w0 (by omega) (by omega) (by omega) (by omega) (by omega) (by omega)
  simp only [rput, cup, Int.reduceLT, if_true, if_false, w1] at ha
  have e1 : w32 (τ 0 49 + 1) = τ 0 49 + 1 := w32_sm (by omega)
  unfold Sim fX11_chair
  by_cases c : 1 ≤ p1 ∧ p1 ≤ 30
  · have e2 : w32 (p1 - 1) = p1 - 1 := w32_sm (by omega)
    simp only [row_clear, ha, w1, e1, e2, ko_some, ko_none, ko_if, ko_bnd, ko_bnx, ko_lod, ko_sto, ko_stb, ko_fld, ko_put, ko_lb, ko_dvc, ko_loa, ko_cpy, ko_jl, ko_jr, i01, i10, up_g, if_false, if_true, Int.reduceEq, Nat.reduceEqDiff, Classical.not_not, within_eq, isIn_eq, hasPorch_eq, hasPerson_eq, isPorch_eq, isPerson_eq, not_true_eq_false, not_false_eq_true, true_and, and_true, false_and, and_false, false_imp_iff, true_imp_iff, implies_true]
    repeat' (first | (with_reducible apply And.intro) | intro _)
    all_goals (try (first | (exfalso; omega) | omega | rfl | exact h))
    · refine h.set_RChair (by repeat (first | exact Fr.rf | exact fx | refine Fr.up ?_ (by decide))) (by repeat (first | exact Fm.rf | exact fm | exact fm.mono (by decide) (by decide) | refine Fm.u0 ?_ (by decide) | refine Fm.up ?_ (by decide) (by decide))) ⟨⟨w0, rfl, ?_, ?_⟩, fun i i0 i1 => ?_⟩
      · show 0 ≤ τ 0 49 + 1; omega
      · show τ 0 49 + 1 ≤ 5; omega
      · have i1 : i < τ 0 49 + 1 := i1
        simp only [Nat.reduceAdd]
        by_cases hi : i = τ 0 49
        · subst hi
          (simp only [up_g, true_and, and_true, false_and, and_false, Nat.reduceEqDiff, if_false, if_true]; (repeat (first | rw [if_neg (by omega)] | rw [if_pos (by omega)])); (repeat' (first | (with_reducible apply And.intro) | intro _)); all_goals (first | rfl | omega))
        · have q := w4 i i0 (by omega)
          simp only [up_g, true_and, and_true, false_and, and_false, Nat.reduceEqDiff, if_false, if_true]
          (repeat (first | rw [if_neg (by omega)] | rw [if_pos (by omega)]))
          exact q
  · simp only [row_clear, ha, w1, e1, ko_some, ko_none, ko_if, ko_bnd, ko_bnx, ko_lod, ko_sto, ko_stb, ko_fld, ko_put, ko_lb, ko_dvc, ko_loa, ko_cpy, ko_jl, ko_jr, i01, i10, up_g, if_false, if_true, Int.reduceEq, Nat.reduceEqDiff, Classical.not_not, within_eq, isIn_eq, hasPorch_eq, hasPerson_eq, isPorch_eq, isPerson_eq, not_true_eq_false, not_false_eq_true, true_and, and_true, false_and, and_false, false_imp_iff, true_imp_iff, implies_true]
    repeat' (first | (with_reducible apply And.intro) | intro _)
    all_goals (try (first | (exfalso; omega) | omega | rfl | exact h))
    · refine h.set_RChair (by repeat (first | exact Fr.rf | exact fx | refine Fr.up ?_ (by decide))) (by repeat (first | exact Fm.rf | exact fm | exact fm.mono (by decide) (by decide) | refine Fm.u0 ?_ (by decide) | refine Fm.up ?_ (by decide) (by decide))) ⟨⟨w0, rfl, Int.le_refl 0, by show (0 : Int) ≤ 5; decide⟩, fun i i0 i1 => ?_⟩
      have i1 : i < 0 := i1
      omega
theorem s_cat {σ τ : St} (h : Rl σ τ) {p1 p2 p3 : Int} : Sim (fX11_cat p1 p2 p3 σ) (fX12_cat p1 p2 p3 τ) := by
  unfold fX12_cat
  refine sim_t0 h ?_
  clear h
  intro τ h
  obtain ⟨⟨w0, w1, w2, w3⟩, w4⟩ := h.c_RCat
  simp only [Nat.reduceAdd] at w0 w1 w4
  have e1 : w32 (τ 0 52 + 1) = τ 0 52 + 1 := w32_sm (by omega)
  have hclr : Rl (up σ 32 2 0) (up τ 0 52 0) := by
    refine h.set_RCat (by repeat (first | exact Fr.rf | exact fx | refine Fr.up ?_ (by decide))) (by repeat (first | exact Fm.rf | exact fm | exact fm.mono (by decide) (by decide) | refine Fm.u0 ?_ (by decide) | refine Fm.up ?_ (by decide) (by decide))) ⟨⟨w0, rfl, Int.le_refl 0, by show (0 : Int) ≤ 12; decide⟩, fun i i0 i1 => ?_⟩
    have i1 : i < 0 := i1
    omega
  unfold Sim fX11_cat
  by_cases c3 : 0 ≤ p3 ∧ p3 ≤ 9999
  · have e2 : idv p3 100 = p3 / 100 := idv_nn (by omega) (by omega) (by omega)
    have e3 : irm p3 100 = p3 % 100 := irm_nn (by omega)
    have ha := row_add (ro := 32) (rc := 33) (rn := 48) (a := p1) (b := p2) (c := p3 / 100) (d := p3 % 100) (e := 0) (by decide) w0 (by omega) (by omega) (by omega) (by omega) (by omega) (by omega)
    simp only [rput, cup, Int.reduceLT, if_true, if_false, w1] at ha
    simp only [row_clear, e2, e3, ha, w1, e1, ko_some, ko_none, ko_if, ko_bnd, ko_bnx, ko_lod, ko_sto, ko_stb, ko_fld, ko_put, ko_lb, ko_dvc, ko_loa, ko_cpy, ko_jl, ko_jr, i01, i10, up_g, if_false, if_true, Int.reduceEq, Nat.reduceEqDiff, Classical.not_not, within_eq, isIn_eq, hasPorch_eq, hasPerson_eq, isPorch_eq, isPerson_eq, not_true_eq_false, not_false_eq_true, true_and, and_true, false_and, and_false, false_imp_iff, true_imp_iff, implies_true]
    repeat' (first | (with_reducible apply And.intro) | intro _)
    all_goals (try (first | (exfalso; omega) | omega | rfl | exact h))
    all_goals (try exact hclr)
    · refine h.set_RCat (by repeat (first | exact Fr.rf | exact fx | refine Fr.up ?_ (by decide))) (by repeat (first | exact Fm.rf | exact fm | exact fm.mono (by decide) (by decide) | refine Fm.u0 ?_ (by decide) | refine Fm.up ?_ (by decide) (by decide))) ⟨⟨w0, rfl, ?_, ?_⟩, fun i i0 i1 => ?_⟩
      · show 0 ≤ τ 0 52 + 1; omega
      · show τ 0 52 + 1 ≤ 12; omega
      · have i1 : i < τ 0 52 + 1 := i1
        simp only [Nat.reduceAdd]
        by_cases hi : i = τ 0 52
        · subst hi
          (simp only [up_g, true_and, and_true, false_and, and_false, Nat.reduceEqDiff, if_false, if_true]; (repeat (first | rw [if_neg (by omega)] | rw [if_pos (by omega)])); (repeat' (first | (with_reducible apply And.intro) | intro _)); all_goals (first | rfl | omega))
        · have q := w4 i i0 (by omega)
          simp only [up_g, true_and, and_true, false_and, and_false, Nat.reduceEqDiff, if_false, if_true]
          (repeat (first | rw [if_neg (by omega)] | rw [if_pos (by omega)]))
          exact q
  · simp only [row_clear, w1, e1, ko_some, ko_none, ko_if, ko_bnd, ko_bnx, ko_lod, ko_sto, ko_stb, ko_fld, ko_put, ko_lb, ko_dvc, ko_loa, ko_cpy, ko_jl, ko_jr, i01, i10, up_g, if_false, if_true, Int.reduceEq, Nat.reduceEqDiff, Classical.not_not, within_eq, isIn_eq, hasPorch_eq, hasPerson_eq, isPorch_eq, isPerson_eq, not_true_eq_false, not_false_eq_true, true_and, and_true, false_and, and_false, false_imp_iff, true_imp_iff, implies_true]
    repeat' (first | (with_reducible apply And.intro) | intro _)
    all_goals (try (first | (exfalso; omega) | omega | rfl | exact h))
    all_goals (try exact hclr)
theorem s_half {σ τ : St} (h : Rl σ τ) {p1 p2 : Int} : Sim (fX11_half p1 p2 σ) (fX12_half p1 p2 τ) := by
  unfold fX12_half
  refine sim_t0 h ?_
  clear h
  intro τ h
  have hR := h.c_RHalf
  have hR2 := hR
  simp only [RHalf, Nat.reduceAdd] at hR hR2
  obtain ⟨⟨u0, u1, u2, u3, u4⟩, ⟨v0, v1, v2, v3, v4⟩, ⟨w0, w1, w2, w3, w4⟩⟩ := hR
  unfold Sim fX11_half
  by_cases c : 0 ≤ p1 ∧ p1 ≤ 2
  · rcases (show p1 = 0 ∨ p1 = 1 ∨ p1 = 2 by omega) with rfl | rfl | rfl
    · have ha := row_add1 (ro := 40) (rc := 41) (rn := 12) (a := p2) (by decide) u0 (by omega) (by omega)
      have e1 : w32 (τ 42 0 + 1) = τ 42 0 + 1 := w32_sm (by omega)
      have e2 : w32 (24 * 0 + τ 42 0) = τ 42 0 := by rw [w32_sm (by omega)]; omega
      have e3 : w32 (w32 (24 * 0) + τ 42 0) = τ 42 0 := by rw [w32_l, e2]
      unfold fX9_halfOf
      simp only [row_clear, Int.toNat_natCast, Nat.reduceAdd, show halfLen ((40 : Nat) : Int) = 12 from rfl, ha, u1, e1, e3, ko_some, ko_none, ko_if, ko_bnd, ko_bnx, ko_lod, ko_sto, ko_stb, ko_fld, ko_put, ko_lb, ko_dvc, ko_loa, ko_cpy, ko_jl, ko_jr, i01, i10, up_g, if_false, if_true, Int.reduceEq, Nat.reduceEqDiff, Classical.not_not, within_eq, isIn_eq, hasPorch_eq, hasPerson_eq, isPorch_eq, isPerson_eq, not_true_eq_false, not_false_eq_true, true_and, and_true, false_and, and_false, false_imp_iff, true_imp_iff, implies_true]
      repeat' (first | (with_reducible apply And.intro) | intro _)
      all_goals (try (first | (exfalso; omega) | omega | rfl | exact h))
      all_goals refine h.set_RHalf (by repeat (first | exact Fr.rf | exact fx | refine Fr.up ?_ (by decide))) (by repeat (first | exact Fm.rf | exact fm | exact fm.mono (by decide) (by decide) | refine Fm.u0 ?_ (by decide) | refine Fm.up ?_ (by decide) (by decide))) ?_
      · exact ⟨⟨u0, rfl, Int.le_refl 0, by show (0 : Int) ≤ 12; decide, fun i i0 i1 => by have i1 : i < 0 := i1; omega⟩, ⟨v0, v1, v2, v3, v4⟩, ⟨w0, w1, w2, w3, w4⟩⟩
      · refine ⟨⟨u0, rfl, by show 0 ≤ τ 42 0 + 1; omega, by show τ 42 0 + 1 ≤ 12; omega, fun i i0 i1 => ?_⟩, ⟨v0, v1, v2, v3, fun i i0 i1 => by have i1 : i < τ 42 1 := i1; simp only [up_g, true_and, and_true, false_and, and_false, Nat.reduceEqDiff, if_false, if_true]; (repeat (first | rw [if_neg (by omega)] | rw [if_pos (by omega)])); exact v4 i i0 i1⟩, ⟨w0, w1, w2, w3, fun i i0 i1 => by have i1 : i < τ 42 2 := i1; simp only [up_g, true_and, and_true, false_and, and_false, Nat.reduceEqDiff, if_false, if_true]; (repeat (first | rw [if_neg (by omega)] | rw [if_pos (by omega)])); exact w4 i i0 i1⟩⟩
        have i1 : i < τ 42 0 + 1 := i1
        simp only [Nat.reduceAdd]
        by_cases hi : i = τ 42 0
        · subst hi
          (simp only [up_g, true_and, and_true, false_and, and_false, Nat.reduceEqDiff, if_false, if_true]; (repeat (first | rw [if_neg (by omega)] | rw [if_pos (by omega)])); (repeat' (first | (with_reducible apply And.intro) | intro _)); all_goals (first | rfl | omega))
        · have q := u4 i i0 (by omega)
          simp only [up_g, true_and, and_true, false_and, and_false, Nat.reduceEqDiff, if_false, if_true]
          (repeat (first | rw [if_neg (by omega)] | rw [if_pos (by omega)]))
          exact q
    · have ha := row_add1 (ro := 42) (rc := 43) (rn := 12) (a := p2) (by decide) v0 (by omega) (by omega)
      have e1 : w32 (τ 42 1 + 1) = τ 42 1 + 1 := w32_sm (by omega)
      have e3 : w32 (w32 (24 * 1) + τ 42 1) = 24 + τ 42 1 := by rw [w32_l, w32_sm (by omega)]; omega
      unfold fX9_halfOf
      simp only [row_clear, Int.toNat_natCast, Nat.reduceAdd, show halfLen ((42 : Nat) : Int) = 12 from rfl, ha, v1, e1, e3, ko_some, ko_none, ko_if, ko_bnd, ko_bnx, ko_lod, ko_sto, ko_stb, ko_fld, ko_put, ko_lb, ko_dvc, ko_loa, ko_cpy, ko_jl, ko_jr, i01, i10, up_g, if_false, if_true, Int.reduceEq, Nat.reduceEqDiff, Classical.not_not, within_eq, isIn_eq, hasPorch_eq, hasPerson_eq, isPorch_eq, isPerson_eq, not_true_eq_false, not_false_eq_true, true_and, and_true, false_and, and_false, false_imp_iff, true_imp_iff, implies_true]
      repeat' (first | (with_reducible apply And.intro) | intro _)
      all_goals (try (first | (exfalso; omega) | omega | rfl | exact h))
      all_goals refine h.set_RHalf (by repeat (first | exact Fr.rf | exact fx | refine Fr.up ?_ (by decide))) (by repeat (first | exact Fm.rf | exact fm | exact fm.mono (by decide) (by decide) | refine Fm.u0 ?_ (by decide) | refine Fm.up ?_ (by decide) (by decide))) ?_
      · exact ⟨⟨u0, u1, u2, u3, u4⟩, ⟨v0, rfl, Int.le_refl 0, by show (0 : Int) ≤ 12; decide, fun i i0 i1 => by have i1 : i < 0 := i1; omega⟩, ⟨w0, w1, w2, w3, w4⟩⟩
      · refine ⟨⟨u0, u1, u2, u3, fun i i0 i1 => by have i1 : i < τ 42 0 := i1; simp only [up_g, true_and, and_true, false_and, and_false, Nat.reduceEqDiff, if_false, if_true]; (repeat (first | rw [if_neg (by omega)] | rw [if_pos (by omega)])); exact u4 i i0 i1⟩, ⟨v0, rfl, by show 0 ≤ τ 42 1 + 1; omega, by show τ 42 1 + 1 ≤ 12; omega, fun i i0 i1 => ?_⟩, ⟨w0, w1, w2, w3, fun i i0 i1 => by have i1 : i < τ 42 2 := i1; simp only [up_g, true_and, and_true, false_and, and_false, Nat.reduceEqDiff, if_false, if_true]; (repeat (first | rw [if_neg (by omega)] | rw [if_pos (by omega)])); exact w4 i i0 i1⟩⟩
        have i1 : i < τ 42 1 + 1 := i1
        simp only [Nat.reduceAdd]
        by_cases hi : i = τ 42 1
        · subst hi
          (simp only [up_g, true_and, and_true, false_and, and_false, Nat.reduceEqDiff, if_false, if_true]; (repeat (first | rw [if_neg (by omega)] | rw [if_pos (by omega)])); (repeat' (first | (with_reducible apply And.intro) | intro _)); all_goals (first | rfl | omega))
        · have q := v4 i i0 (by omega)
          simp only [up_g, true_and, and_true, false_and, and_false, Nat.reduceEqDiff, if_false, if_true]
          (repeat (first | rw [if_neg (by omega)] | rw [if_pos (by omega)]))
          exact q
    · have ha := row_add1 (ro := 44) (rc := 45) (rn := 24) (a := p2) (by decide) w0 (by omega) (by omega)
      have e1 : w32 (τ 42 2 + 1) = τ 42 2 + 1 := w32_sm (by omega)
      have e3 : w32 (w32 (24 * 2) + τ 42 2) = 48 + τ 42 2 := by rw [w32_l, w32_sm (by omega)]; omega
      unfold fX9_halfOf
      simp only [row_clear, Int.toNat_natCast, Nat.reduceAdd, show halfLen ((44 : Nat) : Int) = 24 from rfl, ha, w1, e1, e3, ko_some, ko_none, ko_if, ko_bnd, ko_bnx, ko_lod, ko_sto, ko_stb, ko_fld, ko_put, ko_lb, ko_dvc, ko_loa, ko_cpy, ko_jl, ko_jr, i01, i10, up_g, if_false, if_true, Int.reduceEq, Nat.reduceEqDiff, Classical.not_not, within_eq, isIn_eq, hasPorch_eq, hasPerson_eq, isPorch_eq, isPerson_eq, not_true_eq_false, not_false_eq_true, true_and, and_true, false_and, and_false, false_imp_iff, true_imp_iff, implies_true]
      repeat' (first | (with_reducible apply And.intro) | intro _)
      all_goals (try (first | (exfalso; omega) | omega | rfl | exact h))
      all_goals refine h.set_RHalf (by repeat (first | exact Fr.rf | exact fx | refine Fr.up ?_ (by decide))) (by repeat (first | exact Fm.rf | exact fm | exact fm.mono (by decide) (by decide) | refine Fm.u0 ?_ (by decide) | refine Fm.up ?_ (by decide) (by decide))) ?_
      · exact ⟨⟨u0, u1, u2, u3, u4⟩, ⟨v0, v1, v2, v3, v4⟩, ⟨w0, rfl, Int.le_refl 0, by show (0 : Int) ≤ 24; decide, fun i i0 i1 => by have i1 : i < 0 := i1; omega⟩⟩
      · refine ⟨⟨u0, u1, u2, u3, fun i i0 i1 => by have i1 : i < τ 42 0 := i1; simp only [up_g, true_and, and_true, false_and, and_false, Nat.reduceEqDiff, if_false, if_true]; (repeat (first | rw [if_neg (by omega)] | rw [if_pos (by omega)])); exact u4 i i0 i1⟩, ⟨v0, v1, v2, v3, fun i i0 i1 => by have i1 : i < τ 42 1 := i1; simp only [up_g, true_and, and_true, false_and, and_false, Nat.reduceEqDiff, if_false, if_true]; (repeat (first | rw [if_neg (by omega)] | rw [if_pos (by omega)])); exact v4 i i0 i1⟩, ⟨w0, rfl, by show 0 ≤ τ 42 2 + 1; omega, by show τ 42 2 + 1 ≤ 24; omega, fun i i0 i1 => ?_⟩⟩
        have i1 : i < τ 42 2 + 1 := i1
        simp only [Nat.reduceAdd]
        by_cases hi : i = τ 42 2
        · subst hi
          (simp only [up_g, true_and, and_true, false_and, and_false, Nat.reduceEqDiff, if_false, if_true]; (repeat (first | rw [if_neg (by omega)] | rw [if_pos (by omega)])); (repeat' (first | (with_reducible apply And.intro) | intro _)); all_goals (first | rfl | omega))
        · have q := w4 i i0 (by omega)
          simp only [up_g, true_and, and_true, false_and, and_false, Nat.reduceEqDiff, if_false, if_true]
          (repeat (first | rw [if_neg (by omega)] | rw [if_pos (by omega)]))
          exact q
  · simp only [within_eq, isIn_eq, ko_bnd, ko_some, if_neg c, if_true]
    exact ⟨by trivial, h⟩
