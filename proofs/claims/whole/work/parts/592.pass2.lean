/-! a minute: sitting down, sweeping -/
theorem seat2 {t : Int} {σ τ : St} (h : MQm t σ τ) {p q m : Int} (p0 : 0 ≤ p) (p1 : p < τ 0 7) (q0 : 0 ≤ q) (q1 : q < τ 0 6) (hs : τ 1 (41 + p) = 0) : Ok2 (fX1_takeSeat p q m σ) (fX12_isSat p q m τ) fun _ σ' _ τ' => Mv t σ τ σ' τ' := by
  have hR := h.1
  obtain ⟨⟨a1, a2, a3, a4, a5, a6⟩, ⟨b1, b2, b3, b4, b5, b6⟩, hp, hq⟩ := hR
  have k5 := (hp q q0 q1).2.2.2.2.1
  simp only [Nat.reduceAdd] at k5
  have bd := cP_bd (f := fun p => τ 1 (41 + p)) (v := q + 1) (n := (τ 0 7).toNat)
  have w41 : w32 (41 + p) = 41 + p := w32_sm (by omega)
  have w61 : w32 (61 + p) = 61 + p := w32_sm (by omega)
  have w81 : w32 (81 + p) = 81 + p := w32_sm (by omega)
  have wq : w32 (q + 1) = q + 1 := w32_sm (by omega)
  have e8 : w32 (σ 8 q + 1) = σ 8 q + 1 := by
    rw [k5]
    exact w32_sm (by omega)
  have l20 : 0 ≤ p ∧ p < (20 : Nat) := by omega
  have s20 : ∀ {β : Type} {σ : St} {k : Nat} {v : Int} {g : St → Rs β}, sto σ k 20 p v g = g (up σ k p v) := fun {β σ k v g} => sto_eq l20
  have s161 : ∀ {β : Type} {σ : St} {i v : Int} {g : St → Rs β}, 0 ≤ i ∧ i < 161 → sto σ 1 161 i v g = g (up σ 1 i v) := fun {β σ i v g} h => sto_eq (by omega)
  unfold fX1_takeSeat fX2_sitDown fX12_isSat
  rw [hasPerson_eq, bnd_some, a6, if_pos (And.intro p0 p1), if_neg (show ¬ ((1 : Int) = 0) by decide), hasPorch_eq, bnd_some, a5, if_pos (And.intro q0 q1), if_neg (show ¬ ((1 : Int) = 0) by decide), s20, s20, s20, lod_eq (by omega), sto_eq (by omega), bnd_some, w41, w61, w81, wq, s161 (by omega), s161 (by omega), s161 (by omega)]
  have e8' : w32 (up (up (up σ 11 p q) 12 p 0) 13 p m 8 q + 1) = σ 8 q + 1 := e8
  rw [e8']
  have g : Mv t σ τ _ _ := Mv.nb h (σ' := up (up (up (up σ 11 p q) 12 p 0) 13 p m) 8 q (σ 8 q + 1)) (τ' := up (up (up τ 1 (41 + p) (q + 1)) 1 (61 + p) 0) 1 (81 + p) m) (by repeat (first | exact Fr.rf | exact fx | refine Fr.up ?_ (by decide))) (by repeat (first | exact Fm.rf | exact fm | exact fm.mono (by decide) (by decide) | refine Fm.u0 ?_ (by decide) | refine Fm.up ?_ (by decide) (by decide))) (by first | rfl | (simp only [up_g]; (repeat (rw [if_neg (by omega)])))) (h.1.sitd p0 p1 q0 q1 hs)
  refine ok2_bnd (ok2_mono (write2 g.1) ?_)
  rintro _ σ' _ τ' ⟨g2, _⟩
  rw [ok2_some]
  exact g.tr g2
theorem sweep2 {t : Int} {σ τ : St} (h : MQm t σ τ) {q : Int} (q0 : 0 ≤ q) (q1 : q < τ 0 6) : Ok2 (fX1_sweepPorch q σ) (fX12_isSwept q τ) fun _ σ' _ τ' => Mv t σ τ σ' τ' := by
  have hR := h.1
  obtain ⟨⟨a1, a2, a3, a4, a5, a6⟩, ⟨b1, b2, b3, b4, b5, b6⟩, hp, hq⟩ := hR
  have k3 := (hp q q0 q1).2.2.1
  simp only [Nat.reduceAdd] at k3
  have w17 : w32 (17 + q) = 17 + q := w32_sm (by omega)
  unfold fX1_sweepPorch fX12_isSwept
  rw [hasPorch_eq, bnd_some, a5, if_pos (And.intro q0 q1), if_neg (show ¬ ((1 : Int) = 0) by decide), lod_eq (by omega), w17, lod_eq (by omega), k3]
  refine ok2_bnd (ok2_mono (write2 h) ?_)
  rintro _ σ' _ τ' ⟨g, gx, gm, g1⟩
  rw [sto_eq (by omega), sto_eq (by omega), fld_eq, put_eq, lod_eq (by decide), sto_eq (by decide), ok2_some]
  have r1 := g.1.1.cobw (p := q) (v := 0) q0 (by rw [gm.2 6 (by decide)]; exact q1)
  have e1 : up σ' 6 q 0 3 3 = τ 1 4 := by
    show σ' 3 3 = τ 1 4
    rw [gx 3 (by decide) (by decide)]
    exact a4
  have e2 : up τ' 1 (17 + q) 0 1 4 = τ 1 4 := by
    simp only [up_g, true_and, and_true, false_and, and_false, Nat.reduceEqDiff, if_false, if_true]
    rw [if_neg (by omega)]
    exact g1 4 (by decide)
  rw [e1, e2]
  exact g.tr (Mv.nb g.1 (by repeat (first | exact Fr.rf | exact fx | refine Fr.up ?_ (by decide))) (by repeat (first | exact Fm.rf | exact fm | exact fm.mono (by decide) (by decide) | refine Fm.u0 ?_ (by decide) | refine Fm.up ?_ (by decide) (by decide))) (by (simp only [up_g, Nat.reduceAdd, true_and, and_true, false_and, and_false, Nat.reduceEqDiff, if_false, if_true]) <;> (repeat (first | rw [if_neg (by omega)] | rw [if_pos (by omega)])) <;> (first | assumption | omega)) (r1.swe (v := w32 (τ 1 4 + 1))))
theorem canSit_eq {t : Int} {σ τ : St} (h : MQm t σ τ) {p q : Int} (p0 : 0 ≤ p) (p1 : p < τ 0 7) (q0 : 0 ≤ q) (q1 : q < τ 0 6) : Ok (fX12_canSit p q τ) fun r τ' => τ = τ' ∧ r = if τ 1 (41 + p) = 0 ∧ σ 8 q < σ 4 q then 1 else 0 := by
  have hR := h.1
  obtain ⟨⟨a1, a2, a3, a4, a5, a6⟩, ⟨b1, b2, b3, b4, b5, b6⟩, hp, hq⟩ := hR
  have k1 := (hp q q0 q1).1
  have k5 := (hp q q0 q1).2.2.2.2.1
  obtain ⟨_, _, _, _, _, _, _, _, q9, _⟩ := hq p p0 p1
  simp only [Nat.reduceAdd] at k1 k5
  obtain ⟨n, hn⟩ : ∃ n : Nat, τ 0 7 = n := ⟨(τ 0 7).toNat, by omega⟩
  have hv : ∀ i : Nat, i < n → 0 ≤ τ 1 (41 + (i : Int)) ∧ τ 1 (41 + (i : Int)) ≤ 12 := fun i hi => by
    obtain ⟨_, _, _, _, _, _, _, _, q1, q2, _⟩ := hq i (by omega) (by omega)
    exact ⟨q1, by omega⟩
  have w41 : w32 (41 + p) = 41 + p := w32_sm (by omega)
  unfold fX12_canSit fX12_doesSit
  rw [w41, lod_eq (by omega)]
  by_cases s : τ 1 (41 + p) = 0
  · rw [if_neg (show ¬ 0 < τ 1 (41 + p) by omega), bnd_some, if_pos rfl, ko_bnd]
    refine ok_mono (m_sitters (p := q) (n := n) hn (by omega) hv) ?_
    rintro r τ' ⟨rfl, v, rfl, v1, v2⟩
    rw [onesOf_eq (by omega), bnd_some, lod_eq (by omega), pcN_cP (f := fun p => τ 1 (41 + p)) (by omega) v2, ← k1, show cP n (fun p => τ 1 (41 + p)) (q + 1) = σ 8 q by rw [k5, hn, Int.toNat_natCast]]
    by_cases c : σ 8 q < σ 4 q
    · rw [if_pos c, ko_some, if_pos ⟨s, c⟩]
      exact ⟨rfl, rfl⟩
    · rw [if_neg c, ko_some, if_neg fun x => c x.2]
      exact ⟨rfl, rfl⟩
  · rw [if_pos (show 0 < τ 1 (41 + p) by omega), bnd_some, if_neg (by decide), ko_some, if_neg fun x => s x.1]
    exact ⟨rfl, rfl⟩
theorem freeChair_eq {t : Int} {σ τ : St} (h : MQm t σ τ) {q : Int} (q0 : 0 ≤ q) (q1 : q < τ 0 6) : fX2_hasFreeChair q σ = some (if σ 8 q < σ 4 q then 1 else 0, σ) := by
  have hR := h.1
  obtain ⟨⟨a1, a2, a3, a4, a5, a6⟩, ⟨b1, b2, b3, b4, b5, b6⟩, hp, hq⟩ := hR
  unfold fX2_hasFreeChair
  rw [hasPorch_eq, bnd_some, a5, if_pos (And.intro q0 q1), if_neg (show ¬ ((1 : Int) = 0) by decide), lod_eq (by omega), lod_eq (by omega)]
  split <;> rfl
