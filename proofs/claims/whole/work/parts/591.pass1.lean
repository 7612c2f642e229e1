/-! a minute: getting up, the book -/
theorem rise2 {t : Int} {σ τ : St} (h : MQm t σ τ) {p : Int} (p0 : 0 ≤ p) (p1 : p < τ 0 7) : Ok2 (fX2_rise p σ) (fX12_getsUp p τ) fun _ σ' _ τ' => Mv t σ τ σ' τ' := by
  have hR := h.1
  obtain ⟨⟨a1, a2, a3, a4, a5, a6⟩, ⟨b1, b2, b3, b4, b5, b6⟩, hp, hq⟩ := hR
  obtain ⟨q1, q2, q3, q4, q5, q6, q7, q8, q9, q10, q11, q12, q13, q14, q15, q16, q17⟩ := hq p p0 p1
  simp only [Nat.reduceAdd] at q3
  have w41 : w32 (41 + p) = 41 + p := w32_sm (by omega)
  have w61 : w32 (61 + p) = 61 + p := w32_sm (by omega)
  have w81 : w32 (81 + p) = 81 + p := w32_sm (by omega)
  have l20 : 0 ≤ p ∧ p < (20 : Nat) := by omega
  have s20 : ∀ {β : Type} {σ : St} {k : Nat} {v : Int} {g : St → Rs β}, sto σ k 20 p v g = g (up σ k p v) := fun {β σ k v g} => sto_eq l20
  have s161 : ∀ {β : Type} {σ : St} {i v : Int} {g : St → Rs β}, 0 ≤ i ∧ i < 161 → sto σ 1 161 i v g = g (up σ 1 i v) := fun {β σ i v g} h => sto_eq (by omega)
  unfold fX2_rise fX12_getsUp
  rw [hasPerson_eq, bnd_some, a6, if_pos (And.intro p0 p1), if_neg (show ¬ ((1 : Int) = 0) by decide), lod_eq l20, hasPorch_eq, bnd_some, a5, q3, w41, w61, w81, s161 (by omega), s161 (by omega), s161 (by omega)]
  by_cases s : τ 1 (41 + p) = 0
  · obtain ⟨z1, z2⟩ := q17 s
    rw [if_neg (show ¬ (0 ≤ τ 1 (41 + p) - 1 ∧ τ 1 (41 + p) - 1 < τ 0 6) by omega), if_pos rfl, ok2_some, up_self s, up_self z1, up_self z2]
    exact Mv.rf h
  · have sq : τ 1 (41 + p) = τ 1 (41 + p) - 1 + 1 := by omega
    have k5 := (hp (τ 1 (41 + p) - 1) (by omega) (by omega)).2.2.2.2.1
    simp only [Nat.reduceAdd] at k5
    have bd := cP_bd (f := fun p => τ 1 (41 + p)) (v := τ 1 (41 + p) - 1 + 1) (n := (τ 0 7).toNat)
    have e8 : w32 (σ 8 (τ 1 (41 + p) - 1) - 1) = σ 8 (τ 1 (41 + p) - 1) - 1 := by
      rw [k5]
      exact w32_sm (by omega)
    rw [if_pos (show 0 ≤ τ 1 (41 + p) - 1 ∧ τ 1 (41 + p) - 1 < τ 0 6 by omega), if_neg (show ¬ ((1 : Int) = 0) by decide), lod_eq l20, q3, lod_eq (by omega), e8, sto_eq (by omega), s20, s20, s20, ok2_some]
    exact Mv.nb h (by repeat (first | exact Fr.rf | exact fx | refine Fr.up ?_ (by decide))) (by repeat (first | exact Fm.rf | exact fm | exact fm.mono (by decide) (by decide) | refine Fm.u0 ?_ (by decide) | refine Fm.up ?_ (by decide) (by decide))) (by first | rfl | (simp only [up_g]; (repeat (rw [if_neg (by omega)])))) (h.1.rise p0 p1 (by omega) sq)
theorem write2 {t : Int} {σ τ : St} (h : MQm t σ τ) {a b c : Int} : Ok2 (fX1_write a b c σ) (fX12_notes a b c τ) fun _ σ' _ τ' => Mv t σ τ σ' τ' ∧ (∀ k, k ≠ 50 → k ≠ 51 → σ' k = σ k) ∧ Fm [1, 7] [] τ τ' ∧ ∀ i, i ≠ 3 → τ' 1 i = τ 1 i := by
  have hR := h.1
  obtain ⟨⟨a1, a2, a3, a4, a5, a6⟩, ⟨b1, b2, b3, b4, b5, b6⟩, hp, hq⟩ := hR
  have hh := h
  obtain ⟨_, _, _, _, _, hB, h1, h2, h3⟩ := hh
  obtain ⟨⟨w0, w1, w2, w3⟩, w4⟩ := hB
  simp only [Nat.reduceAdd] at w4
  unfold fX1_write fX12_notes
  rw [fld_eq (σ := σ) (k := 152), fld_eq (σ := τ) (k := 0), h1, h2]
  rcases h3 with rfl | rfl
  · have l161 : ∀ {β : Type} {σ : St} {i : Int} {g : Int → Rs β}, 0 ≤ i ∧ i < 161 → lod σ 1 161 i g = g (σ 1 i) := fun {β σ i g} h => lod_eq (by omega)
    have ha := row_add (ro := 50) (rc := 51) (rn := 750) (a := τ 1 0) (b := τ 1 1) (c := a) (d := b) (e := c) (by decide) w0 (by omega) (by omega) (by omega) (by omega) (by omega) (by omega)
    simp only [rput, cup, Int.reduceLT, if_true, if_false, w1] at ha
    rw [if_pos rfl, if_pos rfl, fld_eq (σ := σ), fld_eq (σ := σ), a3, a2, ha, l161 (by decide)]
    by_cases f : τ 1 3 = 150
    · rw [if_pos (by omega), if_pos f, bnd_some, ok2_some]
      exact ⟨Mv.rf h, fun _ _ _ => rfl, Fm.rf, fun _ _ => rfl⟩
    · have n5 : w32 (5 * τ 1 3) = τ 1 3 * 5 := by rw [w32_sm (by omega)]; omega
      have n6 : w32 (τ 1 3 * 5 + 1) = τ 1 3 * 5 + 1 := w32_sm (by omega)
      have n7 : w32 (τ 1 3 * 5 + 2) = τ 1 3 * 5 + 2 := w32_sm (by omega)
      have n8 : w32 (τ 1 3 * 5 + 3) = τ 1 3 * 5 + 3 := w32_sm (by omega)
      have n9 : w32 (τ 1 3 * 5 + 4) = τ 1 3 * 5 + 4 := w32_sm (by omega)
      have n1 : w32 (τ 1 3 + 1) = τ 1 3 + 1 := w32_sm (by omega)
      have s750 : ∀ {β : Type} {σ : St} {i v : Int} {g : St → Rs β}, 0 ≤ i ∧ i < 750 → sto σ 7 750 i v g = g (up σ 7 i v) := fun {β σ i v g} h => sto_eq (by omega)
      rw [if_neg (by omega), if_neg f, bnd_some, l161 (by decide), lb_eq, n5, l161 (by decide), s750 (by omega), l161 (by decide), n6, s750 (by omega), n7, s750 (by omega), n8, s750 (by omega), n9, s750 (by omega), l161 (by decide), sto_eq (by decide)]
      simp only [up_ne (show (1 : Nat) ≠ 7 by decide), n1]
      rw [ok2_some]
      have fx : Fr [50, 51] σ (up (up (up (up (up (up σ 50 2 (τ 1 3 + 1)) 51 (τ 1 3 * 5) (τ 1 0)) 51 (τ 1 3 * 5 + 1) (τ 1 1)) 51 (τ 1 3 * 5 + 2) a) 51 (τ 1 3 * 5 + 3) b) 51 (τ 1 3 * 5 + 4) c) := (by repeat (first | exact Fr.rf | exact fx | refine Fr.up ?_ (by decide)))
      have fm : Fm [1, 7] [] τ (up (up (up (up (up (up τ 7 (τ 1 3 * 5) (τ 1 0)) 7 (τ 1 3 * 5 + 1) (τ 1 1)) 7 (τ 1 3 * 5 + 2) a) 7 (τ 1 3 * 5 + 3) b) 7 (τ 1 3 * 5 + 4) c) 1 3 (τ 1 3 + 1)) := (by repeat (first | exact Fm.rf | exact fm | exact fm.mono (by decide) (by decide) | refine Fm.u0 ?_ (by decide) | refine Fm.up ?_ (by decide) (by decide)))
      have m1 : ∀ i, i ≠ 3 → (up (up (up (up (up (up τ 7 (τ 1 3 * 5) (τ 1 0)) 7 (τ 1 3 * 5 + 1) (τ 1 1)) 7 (τ 1 3 * 5 + 2) a) 7 (τ 1 3 * 5 + 3) b) 7 (τ 1 3 * 5 + 4) c) 1 3 (τ 1 3 + 1)) 1 i = τ 1 i := fun i hi => by
        simp only [up_g, true_and, and_true, false_and, and_false, Nat.reduceEqDiff, if_false, if_true]
        rw [if_neg hi]
      have hB' : RB (up (up (up (up (up (up σ 50 2 (τ 1 3 + 1)) 51 (τ 1 3 * 5) (τ 1 0)) 51 (τ 1 3 * 5 + 1) (τ 1 1)) 51 (τ 1 3 * 5 + 2) a) 51 (τ 1 3 * 5 + 3) b) 51 (τ 1 3 * 5 + 4) c) 50 (up (up (up (up (up (up τ 7 (τ 1 3 * 5) (τ 1 0)) 7 (τ 1 3 * 5 + 1) (τ 1 1)) 7 (τ 1 3 * 5 + 2) a) 7 (τ 1 3 * 5 + 3) b) 7 (τ 1 3 * 5 + 4) c) 1 3 (τ 1 3 + 1)) := by
        refine ⟨⟨w0, rfl, by show 0 ≤ τ 1 3 + 1; omega, by show τ 1 3 + 1 ≤ 150; omega⟩, fun j j0 j1 => ?_⟩
        have j1 : j < (τ 1 3 + 1) * 5 := j1
        simp only [Nat.reduceAdd]
        simp only [up_g, true_and, and_true, false_and, and_false, Nat.reduceEqDiff, if_false, if_true]
        by_cases c4 : j = τ 1 3 * 5 + 4
        · rw [if_pos c4, if_pos c4]
        rw [if_neg c4, if_neg c4]
        by_cases c3 : j = τ 1 3 * 5 + 3
        · rw [if_pos c3, if_pos c3]
        rw [if_neg c3, if_neg c3]
        by_cases c2 : j = τ 1 3 * 5 + 2
        · rw [if_pos c2, if_pos c2]
        rw [if_neg c2, if_neg c2]
        by_cases c1 : j = τ 1 3 * 5 + 1
        · rw [if_pos c1, if_pos c1]
        rw [if_neg c1, if_neg c1]
        by_cases c0 : j = τ 1 3 * 5
        · rw [if_pos c0, if_pos c0]
        rw [if_neg c0, if_neg c0]
        exact w4 j j0 (by omega)
      have fx' : Fr wA σ _ := fx.mono (by decide)
      have fm' : Fm [1, 7, 21, 22] [] τ _ := fm.mono (by decide) (by decide)
      exact ⟨⟨h.go fx' fm' (h.1.eq3 fx fm m1) hB', fx', fm', by show τ 1 3 ≤ τ 1 3 + 1; omega, fun e => absurd e (by decide)⟩, fun k k0 k1 => fx k (by simp only [List.mem_cons, List.not_mem_nil, or_false]; omega), fm, m1⟩
  · rw [if_neg (by decide), if_neg (by decide), ok2_some]
    exact ⟨Mv.rf h, fun _ _ _ => rfl, Fm.rf, fun _ _ => rfl⟩
