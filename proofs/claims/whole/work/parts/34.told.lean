/-! what is told by one call -/
theorem Rl.set_RH_RU_RB_RCalls_REven_RStreet {σ σ' τ τ' : St} (h : Rl σ τ) (fx : Fr [3, 4, 5, 6, 7, 8, 9, 10, 11, 12, 13, 14, 15, 16, 17, 22, 23, 24, 25, 26, 27, 50, 51, 52, 53, 54, 55, 56, 57, 58, 59, 60, 61, 62, 63, 64, 65, 66, 67, 68, 69, 70, 71, 72, 73, 74, 75, 76, 77, 78, 79, 80, 81, 82, 83, 84, 85, 86, 87, 88, 89, 90, 91, 92, 93, 94, 95, 96, 97, 98, 99, 100, 101, 102, 103, 104, 105, 106, 107, 108, 109, 110, 111, 112, 113, 114, 115, 116, 117, 118, 119, 120, 121, 122, 123, 124, 125, 126, 127, 128, 129, 130, 131, 132, 133, 134, 135, 136, 137, 138, 141, 143, 144, 145, 146, 147, 148, 149, 150, 151, 153, 154, 155, 156, 157, 158, 159, 160, 161, 162, 163, 164, 165, 166, 167, 168, 169, 170, 171, 172, 173, 174, 175, 176, 177, 178, 179, 180, 181, 182, 183, 184] σ σ') (fm : Fm [1, 2, 3, 4, 5, 6, 7, 17, 18, 19, 20, 21, 22, 24, 25, 26, 27, 28, 35, 37, 38, 41, 44, 47, 48, 49, 50, 51, 52, 53, 54, 55] [0, 1, 2, 3, 4, 6, 7, 8, 9, 10, 11, 12, 14, 15, 16, 17, 18, 19, 20, 21, 22, 23, 24, 25, 26, 27, 28, 29, 30, 31, 32, 35, 36, 37, 38, 39, 40, 41, 42, 43, 44, 45, 46, 47, 48, 50, 51, 53, 54, 55, 56, 57, 59, 60, 61, 63, 65, 66, 67, 68, 69, 71, 73, 74, 75, 76, 77, 78, 79, 80, 81, 82, 83, 85, 86] τ τ') (n_RH : RH σ' 3 τ') (n_RU : RU σ' τ') (n_RB : RB σ' 50 τ') (n_RCalls : RCalls σ' 17 τ') (n_REven : REven σ' 17 τ') (n_RStreet : RStreet σ' 17 τ') : Rl σ' τ' := by
  obtain ⟨h0, h1, h2, h3, h4, h5, h6, h7, h8, h9, h10, h11, h12, h13, h14, h15, h16, h17, h18, h19⟩ := h
  exact ⟨n_RH, h1.cg fx fm (by decide), n_RCalls, n_REven, n_RStreet, h5.cg fx fm (by decide), h6.cg fx fm (by decide), h7.cg fx fm (by decide), h8.cg fx fm (by decide), h9.cg fx fm (by decide), h10.cg fx fm (by decide), h11.cg fx fm (by decide), h12.cg fx fm (by decide), h13.cg fx fm (by decide), n_RB, n_RU, h16.cg fx fm (by decide), h17.cg fx fm (by decide), h18.cg fx fm (by decide), h19.cg fx fm (by decide)⟩
theorem Rl.set_RH_RU_RB_RCalls_REven {σ σ' τ τ' : St} (h : Rl σ τ) (fx : Fr [3, 4, 5, 6, 7, 8, 9, 10, 11, 12, 13, 14, 15, 16, 17, 22, 23, 24, 25, 50, 51, 52, 53, 54, 55, 56, 57, 58, 59, 60, 61, 62, 63, 64, 65, 66, 67, 68, 69, 70, 71, 72, 73, 74, 75, 76, 77, 78, 79, 80, 81, 82, 83, 84, 85, 86, 87, 88, 89, 90, 91, 92, 93, 94, 95, 96, 97, 98, 99, 100, 101, 102, 103, 104, 105, 106, 107, 108, 109, 110, 111, 112, 113, 114, 115, 116, 117, 118, 119, 120, 121, 122, 123, 124, 125, 126, 127, 128, 129, 130, 131, 132, 133, 134, 135, 136, 137, 138, 141, 143, 144, 145, 146, 147, 148, 149, 150, 151, 153, 154, 155, 156, 157, 158, 159, 160, 161, 162, 163, 164, 165, 166, 167, 168, 169, 170, 171, 172, 173, 174, 175, 176, 177, 178, 179, 180, 181, 182, 183, 184] σ σ') (fm : Fm [1, 2, 3, 4, 5, 6, 7, 17, 18, 19, 21, 22, 24, 25, 26, 27, 28, 35, 37, 38, 41, 44, 47, 48, 49, 50, 51, 52, 53, 54, 55] [0, 1, 2, 3, 4, 7, 8, 9, 10, 11, 12, 14, 15, 16, 17, 18, 19, 20, 21, 22, 23, 24, 25, 26, 27, 28, 29, 30, 31, 32, 35, 36, 37, 38, 40, 41, 42, 43, 44, 45, 46, 47, 48, 50, 51, 53, 54, 55, 56, 57, 59, 60, 61, 63, 65, 66, 67, 68, 69, 71, 73, 74, 75, 76, 77, 78, 79, 80, 81, 82, 83, 85, 86] τ τ') (n_RH : RH σ' 3 τ') (n_RU : RU σ' τ') (n_RB : RB σ' 50 τ') (n_RCalls : RCalls σ' 17 τ') (n_REven : REven σ' 17 τ') : Rl σ' τ' := by
  obtain ⟨h0, h1, h2, h3, h4, h5, h6, h7, h8, h9, h10, h11, h12, h13, h14, h15, h16, h17, h18, h19⟩ := h
  exact ⟨n_RH, h1.cg fx fm (by decide), n_RCalls, n_REven, h4.cg fx fm (by decide), h5.cg fx fm (by decide), h6.cg fx fm (by decide), h7.cg fx fm (by decide), h8.cg fx fm (by decide), h9.cg fx fm (by decide), h10.cg fx fm (by decide), h11.cg fx fm (by decide), h12.cg fx fm (by decide), h13.cg fx fm (by decide), n_RB, n_RU, h16.cg fx fm (by decide), h17.cg fx fm (by decide), h18.cg fx fm (by decide), h19.cg fx fm (by decide)⟩
theorem cP_cong {f g : Int → Int} {v : Int} : ∀ {n : Nat}, (∀ k : Nat, k < n → f k = g k) → cP n f v = cP n g v := by
  intro n
  induction n with
  | zero => intro _; rfl
  | succ n ih =>
    intro h
    rw [cP, cP, ih (fun k hk => h k (by omega)), h n (by omega)]
theorem cP_zero {f : Int → Int} {v : Int} : ∀ {n : Nat}, (∀ k : Nat, k < n → f k ≠ v) → cP n f v = 0 := by
  intro n
  induction n with
  | zero => intro _; rfl
  | succ n ih =>
    intro h
    rw [cP, ih (fun k hk => h k (by omega)), if_neg (h n (by omega))]
    rfl
theorem cP_bd {f : Int → Int} {v : Int} : ∀ {n : Nat}, 0 ≤ cP n f v ∧ cP n f v ≤ n := by
  intro n
  induction n with
  | zero => exact ⟨Int.le_refl 0, Int.le_refl 0⟩
  | succ n ih =>
    rw [cP]
    split <;> omega
theorem RU.none {σ τ : St} (h1 : σ 52 2 = 0) (h2 : τ 0 3 = 0) (h3 : 0 ≤ σ 52 3 ∧ σ 52 3 ≤ 5) : RU σ τ := ⟨⟨by omega, by omega, by omega, h3.1, h3.2⟩, fun j h h' => by omega⟩
theorem hpP.cg {σ σ' V V' : St} {h : Nat} {i : Int} (h0 : hpP σ h V i) (e1 : σ' (h + 1) i = σ (h + 1) i) (e2 : σ' (h + 2) i = σ (h + 2) i) (e3 : σ' (h + 3) i = σ (h + 3) i) (e4 : σ' (h + 4) i = σ (h + 4) i) (e5 : σ' (h + 5) i = σ (h + 5) i) (v4 : V' 4 i = V 4 i) (v5 : V' 1 (5 + i) = V 1 (5 + i)) (v17 : V' 1 (17 + i) = V 1 (17 + i)) (v29 : V' 1 (29 + i) = V 1 (29 + i)) (vc : cP (V' 0 7).toNat (fun p => V' 1 (41 + p)) (i + 1) = cP (V 0 7).toNat (fun p => V 1 (41 + p)) (i + 1)) (v7 : V 0 7 ≤ V' 0 7) : hpP σ' h V' i := by
  unfold hpP at h0 ⊢
  rw [e1, e2, e3, e4, e5, v4, v5, v17, v29, vc]
  obtain ⟨q1, q2, q3, q4, q5, q6, q7, q8, q9⟩ := h0
  exact ⟨q1, q2, q3, q4, q5, q6, q7, q8, by omega⟩
theorem hpQ.cg {σ σ' V V' : St} {h : Nat} {i : Int} (h0 : hpQ σ h V i) (e6 : σ' (h + 6) i = σ (h + 6) i) (e7 : σ' (h + 7) i = σ (h + 7) i) (e8 : σ' (h + 8) i = σ (h + 8) i) (e9 : σ' (h + 9) i = σ (h + 9) i) (e10 : σ' (h + 10) i = σ (h + 10) i) (e11 : σ' (h + 11) i = σ (h + 11) i) (e12 : σ' (h + 12) i = σ (h + 12) i) (e13 : σ' (h + 13) i = σ (h + 13) i) (v5 : V' 5 i = V 5 i) (v6 : V' 6 i = V 6 i) (v41 : V' 1 (41 + i) = V 1 (41 + i)) (v61 : V' 1 (61 + i) = V 1 (61 + i)) (v81 : V' 1 (81 + i) = V 1 (81 + i)) (v101 : V' 1 (101 + i) = V 1 (101 + i)) (v121 : V' 1 (121 + i) = V 1 (121 + i)) (v141 : V' 1 (141 + i) = V 1 (141 + i)) (w6 : V 0 6 ≤ V' 0 6) : hpQ σ' h V' i := by
  unfold hpQ at h0 ⊢
  rw [e6, e7, e8, e9, e10, e11, e12, e13, v5, v6, v41, v61, v81, v101, v121, v141]
  obtain ⟨q1, q2, q3, q4, q5, q6, q7, q8, q9, q10, q11⟩ := h0
  exact ⟨q1, q2, q3, q4, q5, q6, q7, q8, q9, by omega, q11⟩
theorem RB.cg1 {σ σ' τ τ' : St} (h : RB σ 50 τ) (x50 : σ' 50 = σ 50) (x51 : σ' 51 = σ 51) (m3 : τ' 1 3 = τ 1 3) (m7 : τ' 7 = τ 7) : RB σ' 50 τ' := by
  unfold RB at h ⊢
  rw [x50, x51, m3, m7]
  exact h
theorem RCalls.grow {σ σ' τ τ' : St} (h : RCalls σ 17 τ) (x1 : σ' 22 = σ 22) (x2 : σ' 23 = σ 23) (m : τ' 18 = τ 18) (e : τ' 0 35 = τ 0 35) (h6 : τ 0 6 ≤ τ' 0 6) (h7 : τ 0 7 ≤ τ' 0 7) : RCalls σ' 17 τ' := by
  simp only [RCalls, Nat.reduceAdd] at h ⊢
  rw [x1, x2, m, e]
  obtain ⟨h1, h2, h3⟩ := h
  refine ⟨h1, h2, fun k k0 k1 => ?_⟩
  obtain ⟨q1, q2, q3, q4⟩ := h3 k k0 k1
  exact ⟨q1, by omega, q3, by omega⟩
theorem REven.grow {σ σ' τ τ' : St} (h : REven σ 17 τ) (x1 : σ' 24 = σ 24) (x2 : σ' 25 = σ 25) (m : τ' 19 = τ 19) (e : τ' 0 37 = τ 0 37) (h6 : τ 0 6 ≤ τ' 0 6) (h7 : τ 0 7 ≤ τ' 0 7) : REven σ' 17 τ' := by
  simp only [REven, Nat.reduceAdd] at h ⊢
  rw [x1, x2, m, e]
  obtain ⟨h1, h2⟩ := h
  refine ⟨h1, fun k k0 k1 => ?_⟩
  obtain ⟨q1, q2, q3, q4, q5, q6⟩ := h2 k k0 k1
  exact ⟨q1, q2, q3, fun c => by have := q4 c; omega, q5, fun c => by have := q6 c; omega⟩
theorem RStreet.grow {σ σ' τ τ' : St} (h : RStreet σ 17 τ) (x1 : σ' 26 = σ 26) (x2 : σ' 27 = σ 27) (m : τ' 20 = τ 20) (e : τ' 0 39 = τ 0 39) (h6 : τ 0 6 ≤ τ' 0 6) : RStreet σ' 17 τ' := by
  simp only [RStreet, Nat.reduceAdd] at h ⊢
  rw [x1, x2, m, e]
  obtain ⟨h1, h2, h3⟩ := h
  refine ⟨h1, fun k k0 k1 => ?_, h3⟩
  obtain ⟨q1, q2, q3, q4, q5⟩ := h2 k k0 k1
  exact ⟨q1, by omega, q3, by omega, q5⟩
theorem s_state {σ τ : St} (h : Rl σ τ) {p1 : Int} : Sim (fX11_state p1 σ) (fX12_state p1 τ) := by
  unfold fX12_state
  refine sim_t0 h ?_
  clear h
  intro τ h
  obtain ⟨⟨a1, a2, a3, a4, a5, a6⟩, b, hp, hq⟩ := h.c_RH
  have hU := h.c_RU.1
  unfold Sim fX11_state fX10_forget
  simp only [ko_some, ko_none, ko_if, ko_bnd, ko_bnx, ko_lod, ko_sto, ko_stb, ko_fld, ko_put, ko_lb, ko_dvc, ko_loa, ko_cpy, ko_jl, ko_jr, i01, i10, up_g, if_false, if_true, Int.reduceEq, Nat.reduceEqDiff, Classical.not_not, within_eq, isIn_eq, hasPorch_eq, hasPerson_eq, isPorch_eq, isPerson_eq, not_true_eq_false, not_false_eq_true, true_and, and_true, false_and, and_false, false_imp_iff, true_imp_iff, implies_true]
  refine ⟨by omega, by omega, a1.symm, ?_⟩
  refine h.set_RH_RU_RB (by repeat (first | exact Fr.rf | exact fx | refine Fr.up ?_ (by decide))) (by repeat (first | exact Fm.rf | exact fm | exact fm.mono (by decide) (by decide) | refine Fm.u0 ?_ (by decide) | refine Fm.up ?_ (by decide) (by decide))) ⟨⟨rfl, a2, a3, a4, a5, a6⟩, b, fun i i0 i1 => ?_, fun i i0 i1 => ?_⟩ ?_ ?_
  · refine (hp i i0 i1).cg (by first | rfl | (simp only [up_g]; (repeat (rw [if_neg (by omega)])))) (by first | rfl | (simp only [up_g]; (repeat (rw [if_neg (by omega)])))) (by first | rfl | (simp only [up_g]; (repeat (rw [if_neg (by omega)])))) (by first | rfl | (simp only [up_g]; (repeat (rw [if_neg (by omega)])))) (by first | rfl | (simp only [up_g]; (repeat (rw [if_neg (by omega)])))) (by first | rfl | (simp only [up_g]; (repeat (rw [if_neg (by omega)])))) (by first | rfl | (simp only [up_g]; (repeat (rw [if_neg (by omega)])))) (by first | rfl | (simp only [up_g]; (repeat (rw [if_neg (by omega)])))) (by first | rfl | (simp only [up_g]; (repeat (rw [if_neg (by omega)])))) ?_ (Int.le_refl _)
    exact cP_cong (fun k hk => (by first | rfl | (simp only [up_g]; (repeat (rw [if_neg (by omega)])))))
  · exact (hq i i0 i1).cg (by first | rfl | (simp only [up_g]; (repeat (rw [if_neg (by omega)])))) (by first | rfl | (simp only [up_g]; (repeat (rw [if_neg (by omega)])))) (by first | rfl | (simp only [up_g]; (repeat (rw [if_neg (by omega)])))) (by first | rfl | (simp only [up_g]; (repeat (rw [if_neg (by omega)])))) (by first | rfl | (simp only [up_g]; (repeat (rw [if_neg (by omega)])))) (by first | rfl | (simp only [up_g]; (repeat (rw [if_neg (by omega)])))) (by first | rfl | (simp only [up_g]; (repeat (rw [if_neg (by omega)])))) (by first | rfl | (simp only [up_g]; (repeat (rw [if_neg (by omega)])))) (by first | rfl | (simp only [up_g]; (repeat (rw [if_neg (by omega)])))) (by first | rfl | (simp only [up_g]; (repeat (rw [if_neg (by omega)])))) (by first | rfl | (simp only [up_g]; (repeat (rw [if_neg (by omega)])))) (by first | rfl | (simp only [up_g]; (repeat (rw [if_neg (by omega)])))) (by first | rfl | (simp only [up_g]; (repeat (rw [if_neg (by omega)])))) (by first | rfl | (simp only [up_g]; (repeat (rw [if_neg (by omega)])))) (by first | rfl | (simp only [up_g]; (repeat (rw [if_neg (by omega)])))) (by first | rfl | (simp only [up_g]; (repeat (rw [if_neg (by omega)])))) (Int.le_refl _)
  · exact RU.none rfl rfl hU.2.2.2
  · exact h.c_RB.cg1 rfl rfl rfl rfl
theorem s_porch {σ τ : St} (h : Rl σ τ) {p1 p2 : Int} : Sim (fX11_porch p1 p2 σ) (fX12_porch p1 p2 τ) := by
  unfold fX12_porch
  refine sim_t0 h ?_
  clear h
  intro τ h
  obtain ⟨⟨a1, a2, a3, a4, a5, a6⟩, ⟨b1, b2, b3, b4, b5, b6⟩, hp, hq⟩ := h.c_RH
  have hU := h.c_RU.1
  have e1 : w32 (τ 0 6 + 1) = τ 0 6 + 1 := w32_sm (by omega)
  have e2 : w32 (τ 0 6 + 1 - 1) = τ 0 6 := by rw [w32_sm (by omega)]; omega
  have e3 : w32 (5 + τ 0 6) = 5 + τ 0 6 := w32_sm (by omega)
  have e4 : w32 (17 + τ 0 6) = 17 + τ 0 6 := w32_sm (by omega)
  have e5 : w32 (29 + τ 0 6) = 29 + τ 0 6 := w32_sm (by omega)
  unfold Sim fX11_porch fX2_addPorch fX10_forget
  simp only [a5, e1, e2, e3, e4, e5, ko_some, ko_none, ko_if, ko_bnd, ko_bnx, ko_lod, ko_sto, ko_stb, ko_fld, ko_put, ko_lb, ko_dvc, ko_loa, ko_cpy, ko_jl, ko_jr, i01, i10, up_g, if_false, if_true, Int.reduceEq, Nat.reduceEqDiff, Classical.not_not, within_eq, isIn_eq, hasPorch_eq, hasPerson_eq, isPorch_eq, isPerson_eq, not_true_eq_false, not_false_eq_true, true_and, and_true, false_and, and_false, false_imp_iff, true_imp_iff, implies_true]
  repeat' (first | (with_reducible apply And.intro) | intro _)
  all_goals (try (first | (exfalso; omega) | omega | rfl | exact h))
  refine h.set_RH_RU_RB_RCalls_REven_RStreet (by repeat (first | exact Fr.rf | exact fx | refine Fr.up ?_ (by decide))) (by repeat (first | exact Fm.rf | exact fm | exact fm.mono (by decide) (by decide) | refine Fm.u0 ?_ (by decide) | refine Fm.up ?_ (by decide) (by decide))) ⟨⟨a1.trans (by first | rfl | (symm; simp only [up_g]; (repeat (rw [if_neg (by omega)])))), a2.trans (by first | rfl | (symm; simp only [up_g]; (repeat (rw [if_neg (by omega)])))), a3.trans (by first | rfl | (symm; simp only [up_g]; (repeat (rw [if_neg (by omega)])))), a4.trans (by first | rfl | (symm; simp only [up_g]; (repeat (rw [if_neg (by omega)])))), rfl, a6⟩, ?_, fun i i0 i1 => ?_, fun i i0 i1 => ?_⟩ ?_ ?_ (h.c_RCalls.grow rfl rfl rfl rfl ?_ ?_) (h.c_REven.grow rfl rfl rfl rfl ?_ ?_) (h.c_RStreet.grow rfl rfl rfl rfl ?_)
  · simp only [ko_some, ko_none, ko_if, ko_bnd, ko_bnx, ko_lod, ko_sto, ko_stb, ko_fld, ko_put, ko_lb, ko_dvc, ko_loa, ko_cpy, ko_jl, ko_jr, i01, i10, up_g, if_false, if_true, Int.reduceEq, Nat.reduceEqDiff, Classical.not_not, within_eq, isIn_eq, hasPorch_eq, hasPerson_eq, isPorch_eq, isPerson_eq, not_true_eq_false, not_false_eq_true, true_and, and_true, false_and, and_false, false_imp_iff, true_imp_iff, implies_true]
    rw [if_neg (by omega), if_neg (by omega), if_neg (by omega)]
    omega
  · have i1 : i < τ 0 6 + 1 := i1
    by_cases hi : i = τ 0 6
    · subst hi
      refine ⟨?_, ?_, ?_, ?_, ?_, ?_, ?_, ?_, ?_⟩
      · simp only [up_g, Nat.reduceAdd]; simp
      · simp only [up_g, Nat.reduceAdd]; simp
      · simp only [up_g, Nat.reduceAdd]; simp
      · simp only [up_g, Nat.reduceAdd]; simp
      · have : cP (τ 0 7).toNat (fun p => τ 1 (41 + p)) (τ 0 6 + 1) = 0 := cP_zero (fun k hk => by have := hq k (by omega) (by omega); simp only [hpQ] at this; omega)
        refine Eq.trans (b := 0) (by simp [up_g]) ?_
        rw [← this]
        exact cP_cong (fun k hk => (by first | rfl | (symm; simp only [up_g]; (repeat (rw [if_neg (by omega)])))))
      · simp only [up_g, Nat.reduceAdd]; simp <;> omega
      · simp only [up_g, Nat.reduceAdd]; simp <;> omega
      · simp only [up_g, Nat.reduceAdd]; simp
      · simp only [up_g, Nat.reduceAdd]; simp <;> omega
    · refine (hp i i0 (by omega)).cg (by first | rfl | (simp only [up_g]; (repeat (rw [if_neg (by omega)])))) (by first | rfl | (simp only [up_g]; (repeat (rw [if_neg (by omega)])))) (by first | rfl | (simp only [up_g]; (repeat (rw [if_neg (by omega)])))) (by first | rfl | (simp only [up_g]; (repeat (rw [if_neg (by omega)])))) (by first | rfl | (simp only [up_g]; (repeat (rw [if_neg (by omega)])))) (by first | rfl | (simp only [up_g]; (repeat (rw [if_neg (by omega)])))) (by first | rfl | (simp only [up_g]; (repeat (rw [if_neg (by omega)])))) (by first | rfl | (simp only [up_g]; (repeat (rw [if_neg (by omega)])))) (by first | rfl | (simp only [up_g]; (repeat (rw [if_neg (by omega)])))) ?_ (Int.le_refl _)
      exact cP_cong (fun k hk => (by first | rfl | (simp only [up_g]; (repeat (rw [if_neg (by omega)])))))
  · exact (hq i i0 i1).cg (by first | rfl | (simp only [up_g]; (repeat (rw [if_neg (by omega)])))) (by first | rfl | (simp only [up_g]; (repeat (rw [if_neg (by omega)])))) (by first | rfl | (simp only [up_g]; (repeat (rw [if_neg (by omega)])))) (by first | rfl | (simp only [up_g]; (repeat (rw [if_neg (by omega)])))) (by first | rfl | (simp only [up_g]; (repeat (rw [if_neg (by omega)])))) (by first | rfl | (simp only [up_g]; (repeat (rw [if_neg (by omega)])))) (by first | rfl | (simp only [up_g]; (repeat (rw [if_neg (by omega)])))) (by first | rfl | (simp only [up_g]; (repeat (rw [if_neg (by omega)])))) (by first | rfl | (simp only [up_g]; (repeat (rw [if_neg (by omega)])))) (by first | rfl | (simp only [up_g]; (repeat (rw [if_neg (by omega)])))) (by first | rfl | (simp only [up_g]; (repeat (rw [if_neg (by omega)])))) (by first | rfl | (simp only [up_g]; (repeat (rw [if_neg (by omega)])))) (by first | rfl | (simp only [up_g]; (repeat (rw [if_neg (by omega)])))) (by first | rfl | (simp only [up_g]; (repeat (rw [if_neg (by omega)])))) (by first | rfl | (simp only [up_g]; (repeat (rw [if_neg (by omega)])))) (by first | rfl | (simp only [up_g]; (repeat (rw [if_neg (by omega)])))) (by show τ 0 6 ≤ τ 0 6 + 1; omega)
  · exact RU.none rfl rfl hU.2.2.2
  · exact h.c_RB.cg1 rfl rfl (by first | rfl | (simp only [up_g]; (repeat (rw [if_neg (by omega)])))) rfl
  all_goals (first | (show τ 0 6 ≤ τ 0 6 + 1; omega) | exact Int.le_refl _)
theorem s_person {σ τ : St} (h : Rl σ τ) {p1 p2 : Int} : Sim (fX11_person p1 p2 σ) (fX12_person p1 p2 τ) := by
  unfold fX12_person
  refine sim_t0 h ?_
  clear h
  intro τ h
  obtain ⟨⟨a1, a2, a3, a4, a5, a6⟩, ⟨b1, b2, b3, b4, b5, b6⟩, hp, hq⟩ := h.c_RH
  have hU := h.c_RU.1
  have e1 : w32 (τ 0 7 + 1) = τ 0 7 + 1 := w32_sm (by omega)
  have e2 : w32 (τ 0 7 + 1 - 1) = τ 0 7 := by rw [w32_sm (by omega)]; omega
  unfold Sim fX11_person fX2_addPerson fX10_forget
  simp only [a6, e1, e2, ko_some, ko_none, ko_if, ko_bnd, ko_bnx, ko_lod, ko_sto, ko_stb, ko_fld, ko_put, ko_lb, ko_dvc, ko_loa, ko_cpy, ko_jl, ko_jr, i01, i10, up_g, if_false, if_true, Int.reduceEq, Nat.reduceEqDiff, Classical.not_not, within_eq, isIn_eq, hasPorch_eq, hasPerson_eq, isPorch_eq, isPerson_eq, not_true_eq_false, not_false_eq_true, true_and, and_true, false_and, and_false, false_imp_iff, true_imp_iff, implies_true]
  repeat' (first | (with_reducible apply And.intro) | intro _)
  all_goals (try (first | (exfalso; omega) | omega | rfl | exact h))
  have e3 : ∀ i : Nat, i < 6 → w32 (41 + 20 * (i : Int) + τ 0 7) = 41 + 20 * (i : Int) + τ 0 7 := fun i hi => w32_sm (by omega)
  refine for_ok 6 (fun i x τ' => x = 41 + 20 * (i : Int) ∧ Fm [1, 5, 6] [] τ τ' ∧ τ' 5 = (up τ 5 (τ 0 7) p1) 5 ∧ τ' 6 = (up τ 6 (τ 0 7) p2) 6 ∧ (∀ q : Nat, q < i → τ' 1 (41 + 20 * (q : Int) + τ 0 7) = 0) ∧ ∀ j, (∀ q : Nat, q < 6 → j ≠ 41 + 20 * (q : Int) + τ 0 7) → τ' 1 j = τ 1 j) (by omega) ⟨rfl, (by repeat (first | exact Fm.rf | exact fm | exact fm.mono (by decide) (by decide) | refine Fm.u0 ?_ (by decide) | refine Fm.up ?_ (by decide) (by decide))), rfl, rfl, fun q hq => by omega, fun _ _ => rfl⟩ ?_ ?_
  · rintro i x τ' hi ⟨rfl, fm, f5, f6, f1, f2⟩
    have g7 : τ' 0 7 = τ 0 7 := fm.2 7 (by decide)
    rw [ko_t (by omega)]
    simp only [g7, e3 i hi, ko_fld, ko_sto, ko_lb, ko_some, ko_jl]
    refine ⟨by omega, by rw [w32_sm (by omega)]; omega, (by repeat (first | exact Fm.rf | exact fm | exact fm.mono (by decide) (by decide) | refine Fm.u0 ?_ (by decide) | refine Fm.up ?_ (by decide) (by decide))), f5, f6, fun q hq => ?_, fun j hj => ?_⟩
    · simp only [up_g, true_and]
      by_cases hqi : q = i
      · rw [hqi, if_pos rfl]
      · rw [if_neg (by omega)]; exact f1 q (by omega)
    · simp only [up_g, true_and]
      rw [if_neg (hj i hi)]; exact f2 j hj
  · rintro x τ' ⟨rfl, fm, f5, f6, f1, f2⟩
    have g7 : τ' 0 7 = τ 0 7 := fm.2 7 (by decide)
    rw [ko_f (by omega)]
    simp only [g7, e1, e2, ko_fld, ko_put, ko_some, ko_jr, up_g, true_and, Nat.reduceEqDiff, Int.reduceEq, false_and, if_false, if_true]
    have fp : ∀ j : Int, 0 ≤ j → j < 41 → τ' 1 j = τ 1 j := fun j j0 j1 => f2 j (fun q hq => by omega)
    have fq : ∀ (b p : Int) (k : Nat), b = 41 + 20 * (k : Int) → k < 6 → 0 ≤ p → p < τ 0 7 → τ' 1 (b + p) = τ 1 (b + p) := fun b p k hb hk p0 p1 => f2 (b + p) (fun q hq => by omega)
    have fn : ∀ (b : Int) (k : Nat), b = 41 + 20 * (k : Int) → k < 6 → τ' 1 (b + τ 0 7) = 0 := fun b k hb hk => by rw [hb]; exact f1 k hk
    have g6 : τ' 0 6 = τ 0 6 := fm.2 6 (by decide)
    have g4 : τ' 4 = τ 4 := fm.1 4 (by decide) (by decide)
    refine h.set_RH_RU_RB_RCalls_REven (by repeat (first | exact Fr.rf | exact fx | refine Fr.up ?_ (by decide))) (by repeat (first | exact Fm.rf | exact fm | exact fm.mono (by decide) (by decide) | refine Fm.u0 ?_ (by decide) | refine Fm.up ?_ (by decide) (by decide))) ⟨⟨a1.trans (fp 2 (by decide) (by decide)).symm, a2.trans (fp 1 (by decide) (by decide)).symm, a3.trans (fp 0 (by decide) (by decide)).symm, a4.trans (fp 4 (by decide) (by decide)).symm, a5.trans g6.symm, rfl⟩, ?_, fun i i0 i1 => ?_, fun i i0 i1 => ?_⟩ ?_ ?_ (h.c_RCalls.grow rfl rfl (fm.1 18 (by decide) (by decide)) (fm.2 35 (by decide)) (Int.le_of_eq g6.symm) ?_) (h.c_REven.grow rfl rfl (fm.1 19 (by decide) (by decide)) (fm.2 37 (by decide)) (Int.le_of_eq g6.symm) ?_)
    · simp only [up_g, true_and, Nat.reduceEqDiff, Int.reduceEq, false_and, if_false, if_true, g6, fp 1 (by decide) (by decide)]
      omega
    · have i1 : i < τ 0 6 := by have : i < τ' 0 6 := i1; omega
      refine (hp i i0 i1).cg (by first | rfl | (simp only [up_g]; (repeat (rw [if_neg (by omega)])))) (by first | rfl | (simp only [up_g]; (repeat (rw [if_neg (by omega)])))) (by first | rfl | (simp only [up_g]; (repeat (rw [if_neg (by omega)])))) (by first | rfl | (simp only [up_g]; (repeat (rw [if_neg (by omega)])))) (by first | rfl | (simp only [up_g]; (repeat (rw [if_neg (by omega)])))) (congrFun g4 i) (fp (5 + i) (by omega) (by omega)) (fp (17 + i) (by omega) (by omega)) (fp (29 + i) (by omega) (by omega)) ?_ (by show τ 0 7 ≤ τ 0 7 + 1; omega)
      show cP (τ 0 7 + 1).toNat (fun p => τ' 1 (41 + p)) (i + 1) = _
      rw [show (τ 0 7 + 1).toNat = (τ 0 7).toNat + 1 by omega, cP, Int.toNat_of_nonneg b3, fn 41 0 rfl (by decide), if_neg (by omega), Int.add_zero]
      exact cP_cong (fun k hk => fq 41 k 0 rfl (by decide) (by omega) (by omega))
    · have i1 : i < τ 0 7 + 1 := i1
      by_cases hi : i = τ 0 7
      · subst hi
        have y1 := fn 41 0 rfl (by decide)
        have y2 := fn 61 1 rfl (by decide)
        have y3 := fn 81 2 rfl (by decide)
        have y4 := fn 101 3 rfl (by decide)
        have y5 := fn 121 4 rfl (by decide)
        have y6 := fn 141 5 rfl (by decide)
        simp only [hpQ, up_g, Nat.reduceAdd, f5, f6, true_and, Nat.reduceEqDiff, Int.reduceEq, false_and, if_false, if_true, y1, y2, y3, y4, y5, y6, g6]
        (repeat' (first | (with_reducible apply And.intro) | intro _)); all_goals (first | rfl | omega)
      · refine (hq i i0 (by omega)).cg (by first | rfl | (simp only [up_g]; (repeat (rw [if_neg (by omega)])))) (by first | rfl | (simp only [up_g]; (repeat (rw [if_neg (by omega)])))) (by first | rfl | (simp only [up_g]; (repeat (rw [if_neg (by omega)])))) (by first | rfl | (simp only [up_g]; (repeat (rw [if_neg (by omega)])))) (by first | rfl | (simp only [up_g]; (repeat (rw [if_neg (by omega)])))) (by first | rfl | (simp only [up_g]; (repeat (rw [if_neg (by omega)])))) (by first | rfl | (simp only [up_g]; (repeat (rw [if_neg (by omega)])))) (by first | rfl | (simp only [up_g]; (repeat (rw [if_neg (by omega)])))) ?_ ?_ (fq 41 i 0 rfl (by decide) i0 (by omega)) (fq 61 i 1 rfl (by decide) i0 (by omega)) (fq 81 i 2 rfl (by decide) i0 (by omega)) (fq 101 i 3 rfl (by decide) i0 (by omega)) (fq 121 i 4 rfl (by decide) i0 (by omega)) (fq 141 i 5 rfl (by decide) i0 (by omega)) (Int.le_of_eq g6.symm)
        · show τ' 5 i = τ 5 i
          rw [f5]; exact (by first | rfl | (simp only [up_g]; (repeat (rw [if_neg (by omega)]))))
        · show τ' 6 i = τ 6 i
          rw [f6]; exact (by first | rfl | (simp only [up_g]; (repeat (rw [if_neg (by omega)]))))
    · exact RU.none rfl rfl hU.2.2.2
    · exact h.c_RB.cg1 rfl rfl (fp 3 (by decide) (by decide)) (fm.1 7 (by decide) (by decide))
    all_goals (show τ 0 7 ≤ τ 0 7 + 1; omega)
