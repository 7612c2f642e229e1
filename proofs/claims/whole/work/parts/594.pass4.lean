/-! a minute: the evening begins, calls, rain -/
theorem begins2 {t : Int} {σ τ : St} (h : MQm t σ τ) : Ok2 (fX1_beginEvening σ) (fX12_begins τ) fun _ σ' _ τ' => Mv t σ τ σ' τ' := by
  unfold fX1_beginEvening fX12_begins
  obtain ⟨N, hN⟩ : ∃ N : Nat, τ 0 37 = N := ⟨(τ 0 37).toNat, by have := h.2.2.2.1.1.2.2.1; omega⟩
  have N16 : N ≤ 16 := by have := h.2.2.2.1.1.2.2.2; omega
  refine ok2_bnd (ok2_for N (fun i x σ' y τ' => x = (i : Int) ∧ y = 4 * (i : Int) ∧ Mv t σ τ σ' τ') (by omega) ⟨rfl, rfl, Mv.rf h⟩ ?_ ?_)
  · rintro i x σ' y τ' hi ⟨rfl, rfl, g⟩
    have hN' : τ' 0 37 = N := (g.2.2.1.2 37 (by decide)).trans hN
    have hE := g.1.2.2.2.1
    obtain ⟨⟨e0, e1, e2, e3⟩, hE⟩ := hE
    obtain ⟨⟨k0, k1, k2, k3⟩, v0, v1, v2, v3, v4⟩ := hE i (by omega) (by omega)
    simp only [Nat.reduceAdd] at e0 e1 k0 k1 k2 k3
    obtain ⟨⟨a1, a2, a3, a4, a5, a6⟩, ⟨b1, b2, b3, b4, b5, b6⟩, -, -⟩ := g.1.1
    have get : ∀ s : St, s 24 = σ' 24 → s 25 = σ' 25 → ∀ q : Int, 0 ≤ q → q < 4 → fX6_get 24 25 64 i q s = some (σ' 25 ((i : Int) * 4 + q), s) := fun s s0 s1 q q0 q1 => by
      rw [row_get (w := 4) (by rw [s0]; exact e0) (by decide) (by rw [s0, e1]; omega) (by decide), s0, e1, if_pos (by omega), s1]
    have w4 := (wq4 (i := N) (by omega)).2.1
    obtain ⟨wi, _, w1, w2, w3, wj⟩ := wq4 (i := i) (by omega)
    have l128 : ∀ {β : Type} {s : St} {q : Int} {g : Int → Rs β}, 0 ≤ q ∧ q < 128 → lod s 19 128 q g = g (s 19 q) := fun {β s q g} h => lod_eq (by omega)
    have g0 := get σ' rfl rfl 0 (by decide) (by decide)
    rw [Int.add_zero] at g0
    rw [row_size, bnd_some, e1, hN', fld_eq, hN', w4.o, if_pos (by omega), if_pos (by omega), g0, bnd_some, fld_eq, l128 (by omega), lod_eq (by decide), a3, wi.o, wj.o, w1.o, w2.o, w3.o, k0, show 4 * (i : Int) = (i : Int) * 4 by omega]
    have adv : ∀ σ2 τ2, Mv t σ' τ' σ2 τ2 → ((i + 1 : Nat) : Int) = ((i + 1 : Nat) : Int) ∧ 4 * ((i + 1 : Nat) : Int) = 4 * ((i + 1 : Nat) : Int) ∧ Mv t σ τ σ2 τ2 := fun σ2 τ2 m => ⟨rfl, rfl, g.tr m⟩
    by_cases c : τ' 19 ((i : Int) * 4) = τ' 1 0
    · rw [if_pos c, if_pos c, get σ' rfl rfl 1 (by decide) (by decide), bnd_some, get σ' rfl rfl 2 (by decide) (by decide), bnd_some, l128 (by omega), k1, k2]
      rcases (show τ' 19 ((i : Int) * 4 + 1) = 0 ∨ τ' 19 ((i : Int) * 4 + 1) = 1 ∨ τ' 19 ((i : Int) * 4 + 1) = 2 ∨ τ' 19 ((i : Int) * 4 + 1) = 3 by omega) with d | d | d | d
      · have pp := v2 (by omega)
        have vv := v3 d
        rw [d, if_neg (show ¬ ((0 : Int) + 285 = 287) by decide), hasPorch_eq, bnd_some, a5, if_pos pp, if_neg (show ¬ ((1 : Int) = 0) by decide), if_pos (show (0 : Int) + 285 = 285 by decide), get σ' rfl rfl 3 (by decide) (by decide), bnd_some, k3, sto_eq (by omega), bnd_some, if_neg (show ¬ ((0 : Int) + 285 = 286) by decide), bnd_some, if_neg (show ¬ ((0 : Int) + 285 = 288) by decide), if_pos rfl, l128 (by omega), l128 (by omega), w32_sm (x := 5 + τ' 19 ((i : Int) * 4 + 2)) (by omega), sto_eq (by omega), bnd_some, l128 (by omega)]
        rw [up_ne (show (19 : Nat) ≠ 1 by decide), d, if_neg (show ¬ ((0 : Int) = 1) by decide), bnd_some, l128 (by omega), up_ne (show (19 : Nat) ≠ 1 by decide), d, if_neg (show ¬ ((0 : Int) = 3) by decide), lb_eq, ok2_some]
        exact adv _ _ (Mv.nb g.1 (by repeat (first | exact Fr.rf | exact fx | refine Fr.up ?_ (by decide))) (by repeat (first | exact Fm.rf | exact fm | exact fm.mono (by decide) (by decide) | refine Fm.u0 ?_ (by decide) | refine Fm.up ?_ (by decide) (by decide))) (by (simp only [up_g, Nat.reduceAdd, true_and, and_true, false_and, and_false, Nat.reduceEqDiff, if_false, if_true]) <;> (repeat (first | rw [if_neg (by omega)] | rw [if_pos (by omega)])) <;> (first | assumption | omega)) (g.1.1.lampc (by omega) (by omega) vv.1 vv.2))
      · have pp := v2 (by omega)
        rw [d, if_neg (show ¬ ((1 : Int) + 285 = 287) by decide), hasPorch_eq, bnd_some, a5, if_pos pp, if_neg (show ¬ ((1 : Int) = 0) by decide), if_neg (show ¬ ((1 : Int) + 285 = 285) by decide), bnd_some, if_pos (show (1 : Int) + 285 = 286 by decide), if_neg (show ¬ ((1 : Int) = 0) by decide), bnd_some, l128 (by omega), d, if_pos rfl, l128 (by omega), bnd_assoc, bnd_assoc]
        refine ok2_bnd (ok2_mono (sweep2 g.1 pp.1 pp.2) ?_)
        rintro _ σ2 _ τ2 m
        rw [bnd_some, bnd_some, if_neg (show ¬ ((1 : Int) + 285 = 288) by decide), l128 (by omega), m.2.2.1.1 19 (by decide) (by decide), d, if_neg (show ¬ ((1 : Int) = 3) by decide), lb_eq, ok2_some]
        exact adv _ _ m
      · rw [d, if_pos (show (2 : Int) + 285 = 287 by decide), if_neg (show ¬ ((2 : Int) = 0) by decide), bnd_some, l128 (by omega), d, if_neg (show ¬ ((2 : Int) = 1) by decide), bnd_some, l128 (by omega), d, if_neg (show ¬ ((2 : Int) = 3) by decide), lb_eq, ok2_some]
        exact adv _ _ (Mv.rf g.1)
      · have pp := v2 (by omega)
        have vv := v4 d
        rw [d, if_neg (show ¬ ((3 : Int) + 285 = 287) by decide), hasPorch_eq, bnd_some, a5, if_pos pp, if_neg (show ¬ ((1 : Int) = 0) by decide), if_neg (show ¬ ((3 : Int) + 285 = 285) by decide), bnd_some, if_neg (show ¬ ((3 : Int) + 285 = 286) by decide), bnd_some, if_pos (show (3 : Int) + 285 = 288 by decide), get σ' rfl rfl 3 (by decide) (by decide), bnd_some, k3, sto_eq (by omega), if_neg (show ¬ ((3 : Int) = 0) by decide), bnd_some, l128 (by omega), d, if_neg (show ¬ ((3 : Int) = 1) by decide), bnd_some, l128 (by omega), d, if_pos rfl, l128 (by omega), l128 (by omega), w32_sm (x := 29 + τ' 19 ((i : Int) * 4 + 2)) (by omega), w32_sm (x := τ' 19 ((i : Int) * 4 + 3) + 1) (by omega), sto_eq (by omega), lb_eq, ok2_some]
        exact adv _ _ (Mv.nb g.1 (by repeat (first | exact Fr.rf | exact fx | refine Fr.up ?_ (by decide))) (by repeat (first | exact Fm.rf | exact fm | exact fm.mono (by decide) (by decide) | refine Fm.u0 ?_ (by decide) | refine Fm.up ?_ (by decide) (by decide))) (by (simp only [up_g, Nat.reduceAdd, true_and, and_true, false_and, and_false, Nat.reduceEqDiff, if_false, if_true]) <;> (repeat (first | rw [if_neg (by omega)] | rw [if_pos (by omega)])) <;> (first | assumption | omega)) (g.1.1.mast (by omega) (by omega) (by omega) (by omega)))
    · rw [if_neg c, if_neg c, lb_eq, ok2_some]
      exact adv _ _ (Mv.rf g.1)
  · rintro x σ' y τ' ⟨rfl, rfl, g⟩
    have hN' : τ' 0 37 = N := (g.2.2.1.2 37 (by decide)).trans hN
    have e1 := g.1.2.2.2.1.1.2.1
    simp only [Nat.reduceAdd] at e1
    have w4 := (wq4 (i := N) (by omega)).2.1
    rw [row_size, bnd_some, e1, hN', fld_eq, hN', w4.o, if_neg (by omega), if_neg (by omega), ok2_some]
    show Ok2 _ _ _
    rw [ok2_some]
    exact g
