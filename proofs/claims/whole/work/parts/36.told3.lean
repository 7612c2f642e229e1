/-! set, quarrel, wishes, feed -/
theorem s_set {σ τ : St} (h : Rl σ τ) {p1 p2 p3 : Int} (r3 : rg p3) : Sim (fX11_set p1 p2 p3 σ) (fX12_set p1 p2 p3 τ) := by
  unfold fX12_set
  refine sim_t0 h ?_
  clear h
  intro τ h
  obtain ⟨⟨a1, a2, a3, a4, a5, a6⟩, ⟨b1, b2, b3, b4, b5, b6⟩, -, -⟩ := h.c_RH
  have hU := h.c_RU.1
  have e1 : w32 (τ 0 7 - 1) = τ 0 7 - 1 := w32_sm (by omega)
  unfold rg at r3
  unfold Sim fX11_set fX11_changePorch fX11_changePerson fX12_canSet fX10_forget
  by_cases c0 : p1 = 0
  · subst c0
    simp only [a5, a6, e1, ko_some, ko_none, ko_if, ko_bnd, ko_bnx, ko_lod, ko_sto, ko_stb, ko_fld, ko_put, ko_lb, ko_dvc, ko_loa, ko_cpy, ko_jl, ko_jr, i01, i10, up_g, if_false, if_true, Int.reduceEq, Nat.reduceEqDiff, Classical.not_not, within_eq, isIn_eq, hasPorch_eq, hasPerson_eq, isPorch_eq, isPerson_eq, not_true_eq_false, not_false_eq_true, true_and, and_true, false_and, and_false, false_imp_iff, true_imp_iff, implies_true]
    repeat' (first | (with_reducible apply And.intro) | intro _)
    all_goals (try (first | (exfalso; omega) | omega | rfl | exact h))
    all_goals have e2 : w32 (17 + p2) = 17 + p2 := w32_sm (by omega)
    all_goals (first | (exfalso; omega) | omega | rw [e2])
    all_goals exact h.set_RH_RU_RB (by repeat (first | exact Fr.rf | exact fx | refine Fr.up ?_ (by decide))) (by repeat (first | exact Fm.rf | exact fm | exact fm.mono (by decide) (by decide) | refine Fm.u0 ?_ (by decide) | refine Fm.up ?_ (by decide) (by decide))) (RH.cg (C := [52]) (D := []) (J := [3]) (h.c_RH.cobw (p := p2) (v := p3) (by omega) (by omega)) (by repeat (first | exact Fr.rf | exact fx | refine Fr.up ?_ (by decide))) (by repeat (first | exact Fm.rf | exact fm | exact fm.mono (by decide) (by decide) | refine Fm.u0 ?_ (by decide) | refine Fm.up ?_ (by decide) (by decide))) (by decide)) (RU.none rfl rfl hU.2.2.2) (h.c_RB.cg1 rfl rfl (by first | rfl | (simp only [up_g]; (repeat (rw [if_neg (by omega)])))) rfl)
  by_cases c1 : p1 = 1
  · subst c1
    simp only [a5, a6, e1, ko_some, ko_none, ko_if, ko_bnd, ko_bnx, ko_lod, ko_sto, ko_stb, ko_fld, ko_put, ko_lb, ko_dvc, ko_loa, ko_cpy, ko_jl, ko_jr, i01, i10, up_g, if_false, if_true, Int.reduceEq, Nat.reduceEqDiff, Classical.not_not, within_eq, isIn_eq, hasPorch_eq, hasPerson_eq, isPorch_eq, isPerson_eq, not_true_eq_false, not_false_eq_true, true_and, and_true, false_and, and_false, false_imp_iff, true_imp_iff, implies_true]
    repeat' (first | (with_reducible apply And.intro) | intro _)
    all_goals (try (first | (exfalso; omega) | omega | rfl | exact h))
    all_goals have e2 : w32 (29 + p2) = 29 + p2 := w32_sm (by omega)
    all_goals have e3 : w32 (p3 + 1) = p3 + 1 := w32_sm (by omega)
    all_goals (first | (exfalso; omega) | omega | rw [e2, e3])
    all_goals exact h.set_RH_RU_RB (by repeat (first | exact Fr.rf | exact fx | refine Fr.up ?_ (by decide))) (by repeat (first | exact Fm.rf | exact fm | exact fm.mono (by decide) (by decide) | refine Fm.u0 ?_ (by decide) | refine Fm.up ?_ (by decide) (by decide))) (RH.cg (C := [52]) (D := []) (J := [3]) (h.c_RH.mast (p := p2) (v := p3) (by omega) (by omega) (by omega) (by omega)) (by repeat (first | exact Fr.rf | exact fx | refine Fr.up ?_ (by decide))) (by repeat (first | exact Fm.rf | exact fm | exact fm.mono (by decide) (by decide) | refine Fm.u0 ?_ (by decide) | refine Fm.up ?_ (by decide) (by decide))) (by decide)) (RU.none rfl rfl hU.2.2.2) (h.c_RB.cg1 rfl rfl (by first | rfl | (simp only [up_g]; (repeat (rw [if_neg (by omega)])))) rfl)
  by_cases c2 : p1 = 2
  · subst c2
    simp only [a5, a6, e1, ko_some, ko_none, ko_if, ko_bnd, ko_bnx, ko_lod, ko_sto, ko_stb, ko_fld, ko_put, ko_lb, ko_dvc, ko_loa, ko_cpy, ko_jl, ko_jr, i01, i10, up_g, if_false, if_true, Int.reduceEq, Nat.reduceEqDiff, Classical.not_not, within_eq, isIn_eq, hasPorch_eq, hasPerson_eq, isPorch_eq, isPerson_eq, not_true_eq_false, not_false_eq_true, true_and, and_true, false_and, and_false, false_imp_iff, true_imp_iff, implies_true]
    repeat' (first | (with_reducible apply And.intro) | intro _)
    all_goals (try (first | (exfalso; omega) | omega | rfl | exact h))
    exact h.set_RH_RU (by repeat (first | exact Fr.rf | exact fx | refine Fr.up ?_ (by decide))) (by repeat (first | exact Fm.rf | exact fm | exact fm.mono (by decide) (by decide) | refine Fm.u0 ?_ (by decide) | refine Fm.up ?_ (by decide) (by decide))) (RH.cg (C := [52]) (D := []) (J := [3]) (h.c_RH.tong (p := p2) (v := p3) (by omega) (by omega) (by omega) (by omega)) (by repeat (first | exact Fr.rf | exact fx | refine Fr.up ?_ (by decide))) (by repeat (first | exact Fm.rf | exact fm | exact fm.mono (by decide) (by decide) | refine Fm.u0 ?_ (by decide) | refine Fm.up ?_ (by decide) (by decide))) (by decide)) (RU.none rfl rfl hU.2.2.2)
  by_cases c3 : p1 = 3
  · subst c3
    simp only [a5, a6, e1, ko_some, ko_none, ko_if, ko_bnd, ko_bnx, ko_lod, ko_sto, ko_stb, ko_fld, ko_put, ko_lb, ko_dvc, ko_loa, ko_cpy, ko_jl, ko_jr, i01, i10, up_g, if_false, if_true, Int.reduceEq, Nat.reduceEqDiff, Classical.not_not, within_eq, isIn_eq, hasPorch_eq, hasPerson_eq, isPorch_eq, isPerson_eq, not_true_eq_false, not_false_eq_true, true_and, and_true, false_and, and_false, false_imp_iff, true_imp_iff, implies_true]
    repeat' (first | (with_reducible apply And.intro) | intro _)
    all_goals (try (first | (exfalso; omega) | omega | rfl | exact h))
    exact h.set_RH_RU (by repeat (first | exact Fr.rf | exact fx | refine Fr.up ?_ (by decide))) (by repeat (first | exact Fm.rf | exact fm | exact fm.mono (by decide) (by decide) | refine Fm.u0 ?_ (by decide) | refine Fm.up ?_ (by decide) (by decide))) (RH.cg (C := [52]) (D := []) (J := [3]) (h.c_RH.earc (p := p2) (v := p3) (by omega) (by omega) (by omega) (by omega)) (by repeat (first | exact Fr.rf | exact fx | refine Fr.up ?_ (by decide))) (by repeat (first | exact Fm.rf | exact fm | exact fm.mono (by decide) (by decide) | refine Fm.u0 ?_ (by decide) | refine Fm.up ?_ (by decide) (by decide))) (by decide)) (RU.none rfl rfl hU.2.2.2)
  · simp only [c0, c1, c2, c3, ko_some, ko_none, ko_if, ko_bnd, ko_bnx, ko_lod, ko_sto, ko_stb, ko_fld, ko_put, ko_lb, ko_dvc, ko_loa, ko_cpy, ko_jl, ko_jr, i01, i10, up_g, if_false, if_true, Int.reduceEq, Nat.reduceEqDiff, Classical.not_not, within_eq, isIn_eq, hasPorch_eq, hasPerson_eq, isPorch_eq, isPerson_eq, not_true_eq_false, not_false_eq_true, true_and, and_true, false_and, and_false, false_imp_iff, true_imp_iff, implies_true]
    repeat' (first | (with_reducible apply And.intro) | intro _)
    all_goals (try (first | (exfalso; omega) | omega | rfl | exact h))
theorem orb_bd {a k : Nat} (ha : a < 256) (hk : k < 8) : 0 ≤ ior a (ishl 1 k) ∧ ior a (ishl 1 k) < 256 := by
  have h2 : 2 ^ k < 256 := Nat.pow_lt_pow_of_lt (a := 2) (n := k) (m := 8) (by decide) hk
  have h3 : a ||| 2 ^ k < 2 ^ 8 := Nat.or_lt_two_pow ha h2
  rw [ishl_one k (by omega), ior_nat (by omega) (by omega)]
  omega
theorem s_quarrel {σ τ : St} (h : Rl σ τ) {p1 p2 : Int} : Sim (fX11_quarrel p1 p2 σ) (fX12_quarrel p1 p2 τ) := by
  unfold fX12_quarrel
  refine sim_t0 h ?_
  clear h
  intro τ h
  obtain ⟨⟨w0, w1, w2, w3⟩, w4, w5⟩ := h.c_RQuar
  simp only [Nat.reduceAdd] at w0 w1 w4 w5
  have ha := row_add (ro := 48) (rc := 49) (rn := 16) (a := p1) (b := p2) (c := 0) (d := 0) (e := 0) (by decide) w0 (by omega) (by omega) (by omega) (by omega) (by omega) (by omega)
  simp only [rput, cup, Int.reduceLT, if_true, if_false, w1] at ha
  have e1 : w32 (τ 0 72 + 1) = τ 0 72 + 1 := w32_sm (by omega)
  unfold Sim fX11_quarrel
  simp only [row_clear, ha, w1, e1, ko_some, ko_none, ko_if, ko_bnd, ko_bnx, ko_lod, ko_sto, ko_stb, ko_fld, ko_put, ko_lb, ko_dvc, ko_loa, ko_cpy, ko_jl, ko_jr, i01, i10, up_g, if_false, if_true, Int.reduceEq, Nat.reduceEqDiff, Classical.not_not, within_eq, isIn_eq, hasPorch_eq, hasPerson_eq, isPorch_eq, isPerson_eq, not_true_eq_false, not_false_eq_true, true_and, and_true, false_and, and_false, false_imp_iff, true_imp_iff, implies_true]
  repeat' (first | (with_reducible apply And.intro) | intro _)
  all_goals (try (first | (exfalso; omega) | omega | rfl | exact h))
  · refine for_ok 8 (fun i x τ' => x = (i : Int) ∧ Fm [46] [72] τ τ' ∧ τ' 0 72 = 0 ∧ ∀ j : Int, 0 ≤ j → j < i → τ' 46 j = 0) (by omega) ⟨rfl, (by repeat (first | exact Fm.rf | exact fm | exact fm.mono (by decide) (by decide) | refine Fm.u0 ?_ (by decide) | refine Fm.up ?_ (by decide) (by decide))), rfl, fun j h1 h2 => by omega⟩ ?_ ?_
    · rintro i x τ' hi ⟨rfl, fm, f0, f1⟩
      rw [ko_t (by omega)]
      simp only [ko_sto, ko_some, ko_jl]
      refine ⟨by omega, w32_nat (by omega), (by repeat (first | exact Fm.rf | exact fm | exact fm.mono (by decide) (by decide) | refine Fm.u0 ?_ (by decide) | refine Fm.up ?_ (by decide) (by decide))), f0, fun j h1 h2 => ?_⟩
      simp only [up_g, true_and]
      by_cases hj : j = i
      · rw [if_pos hj]
      · rw [if_neg hj]; exact f1 j h1 (by omega)
    · rintro x τ' ⟨rfl, fm, f0, f1⟩
      rw [ko_f (by omega)]
      simp only [ko_some, ko_jr]
      refine (show Rl _ _ → _ from (by first | exact fun x => x | exact fun x => ⟨by trivial, x⟩)) ?_
      refine h.set_RQuar (by repeat (first | exact Fr.rf | exact fx | refine Fr.up ?_ (by decide))) (by repeat (first | exact Fm.rf | exact fm | exact fm.mono (by decide) (by decide) | refine Fm.u0 ?_ (by decide) | refine Fm.up ?_ (by decide) (by decide))) ⟨⟨w0, f0.symm, ?_, ?_⟩, fun i i0 i1 => ?_, fun a b a0 a1 b0 b1 => ?_⟩
      · omega
      · omega
      · omega
      · rw [f1 a a0 (by omega), f0]
        refine ⟨by decide, by decide, fun hc => ?_, fun ⟨i, i0, i1, _⟩ => by omega⟩
        obtain ⟨b, rfl⟩ : ∃ n : Nat, b = n := ⟨b.toNat, by omega⟩
        rw [show (0 : Int) = ((0 : Nat) : Int) from rfl, bit_iff (by decide) (by omega), Nat.zero_testBit] at hc
        cases hc
  · rename_i q1 q2 q3 q4 q5 q6 q7 q8 q9 q10
    have hne : ¬ p2 = p1 := fun e => q4 e.symm
    simp only [hne, if_false]
    refine h.set_RQuar (by repeat (first | exact Fr.rf | exact fx | refine Fr.up ?_ (by decide))) (by repeat (first | exact Fm.rf | exact fm | exact fm.mono (by decide) (by decide) | refine Fm.u0 ?_ (by decide) | refine Fm.up ?_ (by decide) (by decide))) ⟨⟨w0, rfl, ?_, ?_⟩, fun i i0 i1 => ?_, fun a b a0 a1 b0 b1 => ?_⟩
    · show 0 ≤ τ 0 72 + 1; omega
    · show τ 0 72 + 1 ≤ 8; omega
    · have i1 : i < τ 0 72 + 1 := i1
      simp only [Nat.reduceAdd]
      by_cases hi : i = τ 0 72
      · subst hi
        (simp only [up_g, true_and, and_true, false_and, and_false, Nat.reduceEqDiff, if_false, if_true]; (repeat (first | rw [if_neg (by omega)] | rw [if_pos (by omega)])); (repeat' (first | (with_reducible apply And.intro) | intro _)); all_goals (first | rfl | omega))
      · have q := w4 i i0 (by omega)
        simp only [up_g, true_and, and_true, false_and, and_false, Nat.reduceEqDiff, if_false, if_true]
        (repeat (first | rw [if_neg (by omega)] | rw [if_pos (by omega)]))
        exact q
    · have hq : hasq (τ 0 72 + 1) (up (up (up σ 48 2 (τ 0 72 + 1)) 49 (τ 0 72 * 2) p1) 49 (τ 0 72 * 2 + 1) p2 49) a b ↔ hasq (τ 0 72) (σ 49) a b ∨ ((p1 = a ∧ p2 = b) ∨ (p1 = b ∧ p2 = a)) := by
        have e2 : ∀ i, 0 ≤ i → i < τ 0 72 → up (up (up σ 48 2 (τ 0 72 + 1)) 49 (τ 0 72 * 2) p1) 49 (τ 0 72 * 2 + 1) p2 49 (i * 2) = σ 49 (i * 2) ∧ up (up (up σ 48 2 (τ 0 72 + 1)) 49 (τ 0 72 * 2) p1) 49 (τ 0 72 * 2 + 1) p2 49 (i * 2 + 1) = σ 49 (i * 2 + 1) := by
          intro i i0 i1
          simp only [up_g, true_and, and_true, false_and, and_false, Nat.reduceEqDiff, if_false, if_true]
          (repeat (first | rw [if_neg (by omega)] | rw [if_pos (by omega)]))
          exact ⟨rfl, rfl⟩
        have e3 : up (up (up σ 48 2 (τ 0 72 + 1)) 49 (τ 0 72 * 2) p1) 49 (τ 0 72 * 2 + 1) p2 49 (τ 0 72 * 2) = p1 ∧ up (up (up σ 48 2 (τ 0 72 + 1)) 49 (τ 0 72 * 2) p1) 49 (τ 0 72 * 2 + 1) p2 49 (τ 0 72 * 2 + 1) = p2 := by
          simp only [up_g, true_and, and_true, false_and, and_false, Nat.reduceEqDiff, if_false, if_true]
          (repeat (first | rw [if_neg (by omega)] | rw [if_pos (by omega)]))
        constructor
        · rintro ⟨i, i0, i1, hc⟩
          by_cases hi : i = τ 0 72
          · subst hi
            rw [e3.1, e3.2] at hc
            exact Or.inr hc
          · rw [(e2 i i0 (by omega)).1, (e2 i i0 (by omega)).2] at hc
            exact Or.inl ⟨i, i0, by omega, hc⟩
        · rintro (⟨i, i0, i1, hc⟩ | hc)
          · refine ⟨i, i0, by omega, ?_⟩
            rw [(e2 i i0 i1).1, (e2 i i0 i1).2]
            exact hc
          · refine ⟨τ 0 72, w2, by omega, ?_⟩
            rw [e3.1, e3.2]
            exact hc
      show _ ∧ _ ∧ (_ ↔ hasq (τ 0 72 + 1) (up (up (up σ 48 2 (τ 0 72 + 1)) 49 (τ 0 72 * 2) p1) 49 (τ 0 72 * 2 + 1) p2 49) a b)
      rw [hq]
      obtain ⟨u1, u2, u3⟩ := w5 a b a0 a1 b0 b1
      have key : ∀ c : Int, 0 ≤ c → c < 8 → 0 ≤ ior (τ 46 a) (ishl 1 c) ∧ ior (τ 46 a) (ishl 1 c) < 256 ∧ (iand (ishr (ior (τ 46 a) (ishl 1 c)) b) 1 = 1 ↔ hasq (τ 0 72) (σ 49) a b ∨ b = c) := by
        intro c c0 c1
        obtain ⟨m, hm⟩ : ∃ n : Nat, τ 46 a = n := ⟨(τ 46 a).toNat, by omega⟩
        obtain ⟨c, rfl⟩ : ∃ n : Nat, c = n := ⟨c.toNat, by omega⟩
        obtain ⟨b, rfl⟩ : ∃ n : Nat, b = n := ⟨b.toNat, by omega⟩
        rw [hm] at u3 ⊢
        rw [orb_iff (by omega) (by omega) (by omega), u3]
        exact ⟨(orb_bd (by omega) (by omega)).1, (orb_bd (by omega) (by omega)).2, by rw [Int.natCast_inj]⟩
      simp only [up_g, true_and, false_and, Nat.reduceEqDiff, if_false]
      by_cases ha1 : a = p1
      · subst ha1
        rw [if_neg (by omega), if_pos (by omega)]
        obtain ⟨k1, k2, k3⟩ := key p2 (by omega) (by omega)
        refine ⟨k1, k2, ?_⟩
        rw [k3]
        constructor
        · rintro (hc | hc)
          · exact Or.inl hc
          · exact Or.inr (Or.inl ⟨rfl, hc.symm⟩)
        · rintro (hc | ⟨_, hc⟩ | ⟨hc, hd⟩)
          · exact Or.inl hc
          · exact Or.inr hc.symm
          · omega
      · by_cases ha2 : a = p2
        · subst ha2
          rw [if_pos (by omega)]
          obtain ⟨k1, k2, k3⟩ := key p1 (by omega) (by omega)
          refine ⟨k1, k2, ?_⟩
          rw [k3]
          constructor
          · rintro (hc | hc)
            · exact Or.inl hc
            · exact Or.inr (Or.inr ⟨hc.symm, rfl⟩)
          · rintro (hc | ⟨hc, hd⟩ | ⟨hc, hd⟩)
            · exact Or.inl hc
            · omega
            · exact Or.inr hc.symm
        · rw [if_neg (by omega), if_neg (by omega)]
          refine ⟨u1, u2, ?_⟩
          rw [u3]
          constructor
          · exact Or.inl
          · rintro (hc | ⟨hc, hd⟩ | ⟨hc, hd⟩)
            · exact hc
            · omega
            · omega
