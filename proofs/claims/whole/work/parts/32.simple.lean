/-! rows of one number told one by one -/
theorem s_family {σ τ : St} (h : Rl σ τ) {p1 : Int} : Sim (fX11_family p1 σ) (fX12_family p1 τ) := by
  unfold fX12_family
  refine sim_t0 h ?_
  clear h
  intro τ h
  obtain ⟨⟨w0, w1, w2, w3⟩, w4⟩ := h.c_RFam
  simp only [Nat.reduceAdd] at w0 w1 w4
  have ha := row_add1 (ro := 34) (rc := 35) (rn := 8) (a := p1) (by decide) w0 (by omega) (by omega)
  have e1 : w32 (τ 0 58 + 1) = τ 0 58 + 1 := w32_sm (by omega)
  unfold Sim fX11_family
  simp only [row_clear, ha, w1, e1, ko_some, ko_none, ko_if, ko_bnd, ko_bnx, ko_lod, ko_sto, ko_stb, ko_fld, ko_put, ko_lb, ko_dvc, ko_loa, ko_cpy, ko_jl, ko_jr, i01, i10, up_g, if_false, if_true, Int.reduceEq, Nat.reduceEqDiff, Classical.not_not, within_eq, isIn_eq, hasPorch_eq, hasPerson_eq, isPorch_eq, isPerson_eq, not_true_eq_false, not_false_eq_true, true_and, and_true, false_and, and_false, false_imp_iff, true_imp_iff, implies_true]
  repeat' (first | (with_reducible apply And.intro) | intro _)
  all_goals (try (first | (exfalso; omega) | omega | rfl | exact h))
  · refine h.set_RFam (by repeat (first | exact Fr.rf | exact fx | refine Fr.up ?_ (by decide))) (by repeat (first | exact Fm.rf | exact fm | exact fm.mono (by decide) (by decide) | refine Fm.u0 ?_ (by decide) | refine Fm.up ?_ (by decide) (by decide))) ?_
    simp only [RFam, Nat.reduceAdd, up_g, w0]
    grind
  · refine h.set_RFam (by repeat (first | exact Fr.rf | exact fx | refine Fr.up ?_ (by decide))) (by repeat (first | exact Fm.rf | exact fm | exact fm.mono (by decide) (by decide) | refine Fm.u0 ?_ (by decide) | refine Fm.up ?_ (by decide) (by decide))) ?_
    simp only [RFam, Nat.reduceAdd, up_g, w0]
    grind
theorem s_board {σ τ : St} (h : Rl σ τ) {p1 : Int} : Sim (fX11_board p1 σ) (fX12_board p1 τ) := by
  unfold fX12_board
  refine sim_t0 h ?_
  clear h
  intro τ h
  obtain ⟨⟨w0, w1, w2, w3⟩, w4⟩ := h.c_RBoard
  simp only [Nat.reduceAdd] at w0 w1 w4
  have ha := row_add1 (ro := 36) (rc := 37) (rn := 12) (a := p1) (by decide) w0 (by omega) (by omega)
  have e1 : w32 (τ 0 62 + 1) = τ 0 62 + 1 := w32_sm (by omega)
  unfold Sim fX11_board
  simp only [row_clear, ha, w1, e1, ko_some, ko_none, ko_if, ko_bnd, ko_bnx, ko_lod, ko_sto, ko_stb, ko_fld, ko_put, ko_lb, ko_dvc, ko_loa, ko_cpy, ko_jl, ko_jr, i01, i10, up_g, if_false, if_true, Int.reduceEq, Nat.reduceEqDiff, Classical.not_not, within_eq, isIn_eq, hasPorch_eq, hasPerson_eq, isPorch_eq, isPerson_eq, not_true_eq_false, not_false_eq_true, true_and, and_true, false_and, and_false, false_imp_iff, true_imp_iff, implies_true]
  repeat' (first | (with_reducible apply And.intro) | intro _)
  all_goals (try (first | (exfalso; omega) | omega | rfl | exact h))
  · refine h.set_RBoard (by repeat (first | exact Fr.rf | exact fx | refine Fr.up ?_ (by decide))) (by repeat (first | exact Fm.rf | exact fm | exact fm.mono (by decide) (by decide) | refine Fm.u0 ?_ (by decide) | refine Fm.up ?_ (by decide) (by decide))) ?_
    simp only [RBoard, Nat.reduceAdd, up_g, w0]
    grind
  · refine h.set_RBoard (by repeat (first | exact Fr.rf | exact fx | refine Fr.up ?_ (by decide))) (by repeat (first | exact Fm.rf | exact fm | exact fm.mono (by decide) (by decide) | refine Fm.u0 ?_ (by decide) | refine Fm.up ?_ (by decide) (by decide))) ?_
    simp only [RBoard, Nat.reduceAdd, up_g, w0]
    grind
theorem s_talk {σ τ : St} (h : Rl σ τ) {p1 : Int} : Sim (fX11_talk p1 σ) (fX12_talk p1 τ) := by
  unfold fX12_talk
  refine sim_t0 h ?_
  clear h
  intro τ h
  obtain ⟨⟨w0, w1, w2, w3⟩, w4⟩ := h.c_RTalk
  simp only [Nat.reduceAdd] at w0 w1 w4
  have ha := row_add1 (ro := 38) (rc := 39) (rn := 24) (a := p1) (by decide) w0 (by omega) (by omega)
  have e1 : w32 (τ 0 64 + 1) = τ 0 64 + 1 := w32_sm (by omega)
  unfold Sim fX11_talk
  simp only [row_clear, ha, w1, e1, ko_some, ko_none, ko_if, ko_bnd, ko_bnx, ko_lod, ko_sto, ko_stb, ko_fld, ko_put, ko_lb, ko_dvc, ko_loa, ko_cpy, ko_jl, ko_jr, i01, i10, up_g, if_false, if_true, Int.reduceEq, Nat.reduceEqDiff, Classical.not_not, within_eq, isIn_eq, hasPorch_eq, hasPerson_eq, isPorch_eq, isPerson_eq, not_true_eq_false, not_false_eq_true, true_and, and_true, false_and, and_false, false_imp_iff, true_imp_iff, implies_true]
  repeat' (first | (with_reducible apply And.intro) | intro _)
  all_goals (try (first | (exfalso; omega) | omega | rfl | exact h))
  · refine h.set_RTalk (by repeat (first | exact Fr.rf | exact fx | refine Fr.up ?_ (by decide))) (by repeat (first | exact Fm.rf | exact fm | exact fm.mono (by decide) (by decide) | refine Fm.u0 ?_ (by decide) | refine Fm.up ?_ (by decide) (by decide))) ?_
    simp only [RTalk, Nat.reduceAdd, up_g, w0]
    grind
  · refine h.set_RTalk (by repeat (first | exact Fr.rf | exact fx | refine Fr.up ?_ (by decide))) (by repeat (first | exact Fm.rf | exact fm | exact fm.mono (by decide) (by decide) | refine Fm.u0 ?_ (by decide) | refine Fm.up ?_ (by decide) (by decide))) ?_
    simp only [RTalk, Nat.reduceAdd, up_g, w0]
    grind
theorem s_swing {σ τ : St} (h : Rl σ τ) {p1 : Int} : Sim (fX11_swing p1 σ) (fX12_swing p1 τ) := by
  unfold fX12_swing
  refine sim_t0 h ?_
  clear h
  intro τ h
  obtain ⟨⟨w0, w1, w2, w3⟩, w4⟩ := h.c_RSwing
  simp only [Nat.reduceAdd] at w0 w1 w4
  have ha := row_add1 (ro := 46) (rc := 47) (rn := 8) (a := p1) (by decide) w0 (by omega) (by omega)
  have e1 : w32 (τ 0 70 + 1) = τ 0 70 + 1 := w32_sm (by omega)
  unfold Sim fX11_swing
  simp only [row_clear, ha, w1, e1, ko_some, ko_none, ko_if, ko_bnd, ko_bnx, ko_lod, ko_sto, ko_stb, ko_fld, ko_put, ko_lb, ko_dvc, ko_loa, ko_cpy, ko_jl, ko_jr, i01, i10, up_g, if_false, if_true, Int.reduceEq, Nat.reduceEqDiff, Classical.not_not, within_eq, isIn_eq, hasPorch_eq, hasPerson_eq, isPorch_eq, isPerson_eq, not_true_eq_false, not_false_eq_true, true_and, and_true, false_and, and_false, false_imp_iff, true_imp_iff, implies_true]
  repeat' (first | (with_reducible apply And.intro) | intro _)
  all_goals (try (first | (exfalso; omega) | omega | rfl | exact h))
  · refine h.set_RSwing (by repeat (first | exact Fr.rf | exact fx | refine Fr.up ?_ (by decide))) (by repeat (first | exact Fm.rf | exact fm | exact fm.mono (by decide) (by decide) | refine Fm.u0 ?_ (by decide) | refine Fm.up ?_ (by decide) (by decide))) ?_
    simp only [RSwing, Nat.reduceAdd, up_g, w0]
    grind
  · refine h.set_RSwing (by repeat (first | exact Fr.rf | exact fx | refine Fr.up ?_ (by decide))) (by repeat (first | exact Fm.rf | exact fm | exact fm.mono (by decide) (by decide) | refine Fm.u0 ?_ (by decide) | refine Fm.up ?_ (by decide) (by decide))) ?_
    simp only [RSwing, Nat.reduceAdd, up_g, w0]
    grind
