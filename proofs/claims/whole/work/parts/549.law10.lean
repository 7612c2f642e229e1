/-! the law's code: what is looked at -/
def wT (τ : St) (pe po a : Int) : Int := if a = 0 then (if pe = -1 then 0 else τ 5 pe) else if a = 1 then (if pe = -1 then 0 else τ 6 pe) else if a = 2 then cP (τ 0 7).toNat (fun p => τ 1 (41 + p)) (po + 1) else if a = 3 then (if pe = -1 then 0 else τ 1 (61 + pe)) else if a = 4 then τ 1 (5 + po) else if a = 5 then τ 1 (17 + po) else if a = 6 then τ 1 1 else if a = 7 then (if pe = -1 then 0 else τ 1 (101 + pe)) else if a = 8 then (if pe = -1 then 0 else τ 1 (121 + pe)) else τ 1 0
theorem ten {P : Int → Prop} (h0 : P 0) (h1 : P 1) (h2 : P 2) (h3 : P 3) (h4 : P 4) (h5 : P 5) (h6 : P 6) (h7 : P 7) (h8 : P 8) (h9 : P 9) : ∀ a, 0 ≤ a → a ≤ 9 → P a := by
  intro a a0 a1
  rcases (show a = 0 ∨ a = 1 ∨ a = 2 ∨ a = 3 ∨ a = 4 ∨ a = 5 ∨ a = 6 ∨ a = 7 ∨ a = 8 ∨ a = 9 by omega) with rfl | rfl | rfl | rfl | rfl | rfl | rfl | rfl | rfl | rfl <;> assumption
theorem c_look {σ τ : St} {pe po : Int} (h : RH σ 3 τ) (hpe : pe = -1 ∨ 0 ≤ pe ∧ pe < τ 0 7) (hpo : 0 ≤ po ∧ po < τ 0 6) : Ok (fX3_lookAt pe po σ) fun _ s => Fr [150] σ s ∧ ∀ a, 0 ≤ a → a ≤ 9 → s 150 a = wT τ pe po a := by
  obtain ⟨⟨a1, a2, a3, a4, a5, a6⟩, ⟨b1, b2, b3, b4, b5, b6⟩, hp, hq⟩ := h
  obtain ⟨p1, p2, p3, p4, p5, _⟩ := hp po hpo.1 hpo.2
  simp only [Nat.reduceAdd] at p1 p2 p3 p4 p5
  unfold fX3_lookAt
  have fz : ∀ i, 0 ≤ i → i ≤ 9 → fil σ 150 10 0 150 i = 0 := fun i h1 h2 => fil_at (by omega)
  have ff : ∀ k, k ≠ 150 → fil σ 150 10 0 k = σ k := fun k hk => funext fun i => if_neg fun h => hk h.1
  rw [fill_eq (by decide), bnd_some]
  have e3 := ff 3 (by decide)
  have e5 := ff 5 (by decide)
  have e6 := ff 6 (by decide)
  have e8 := ff 8 (by decide)
  have e9 := ff 9 (by decide)
  have e10 := ff 10 (by decide)
  have e12 := ff 12 (by decide)
  have e14 := ff 14 (by decide)
  have e15 := ff 15 (by decide)
  have fr0 : Fr [150] σ (fil σ 150 10 0) := Fr.rf.fil (by decide)
  generalize fil σ 150 10 0 = s at *
  clear ff
  have l12 : (0 : Int) ≤ po ∧ po < (12 : Nat) := by omega
  have s10 : ∀ {β : Type} {σ : St} {i v : Int} {g : St → Rs β}, 0 ≤ i ∧ i ≤ 9 → sto σ 150 10 i v g = g (up σ 150 i v) := fun {β σ i v g} h => sto_eq (by omega)
  rcases hpe with rfl | hpe
  · rw [hasPerson_eq, bnd_some, if_neg (show ¬ ((0 : Int) ≤ -1 ∧ (-1 : Int) < s 3 5) by omega), if_pos rfl, bnd_some, hasPorch_eq, bnd_some, if_pos (show 0 ≤ po ∧ po < s 3 4 by rw [e3, a5]; exact hpo), if_neg (show ¬ ((1 : Int) = 0) by decide), lod_eq l12, s10 (by decide), lod_eq l12, s10 (by decide), lod_eq l12, s10 (by decide), bnd_some, fld_eq, s10 (by decide), fld_eq, s10 (by decide), ko_some]
    refine ⟨((((fr0.up (by decide)).up (by decide)).up (by decide)).up (by decide)).up (by decide), ten ?_ ?_ ?_ ?_ ?_ ?_ ?_ ?_ ?_ ?_⟩ <;> simp only [up_g, Nat.reduceEqDiff, Int.reduceEq, false_and, and_false, true_and, and_true, if_false, if_true, wT, e3, e5, e6, e8, a2, a3, p2, p3, p5] <;> first | rfl | exact fz _ (by decide) (by decide)
  · obtain ⟨q1, q2, q3, q4, q5, q6, q7, _⟩ := hq pe hpe.1 hpe.2
    simp only [Nat.reduceAdd] at q1 q2 q3 q4 q5 q6 q7
    have l20 : (0 : Int) ≤ pe ∧ pe < (20 : Nat) := by omega
    have ne : ¬ pe = -1 := by omega
    rw [hasPerson_eq, bnd_some, if_pos (show 0 ≤ pe ∧ pe < s 3 5 by rw [e3, a6]; exact hpe), if_neg (show ¬ ((1 : Int) = 0) by decide), lod_eq l20, s10 (by decide), lod_eq l20, s10 (by decide), lod_eq l20, s10 (by decide), lod_eq l20, s10 (by decide), lod_eq l20, s10 (by decide), bnd_some, hasPorch_eq, bnd_some]
    simp only [up_g, Nat.reduceEqDiff, Int.reduceEq, false_and, and_false, true_and, and_true, if_false, if_true]
    rw [if_pos (show 0 ≤ po ∧ po < s 3 4 by rw [e3, a5]; exact hpo), if_neg (show ¬ ((1 : Int) = 0) by decide), lod_eq l12, s10 (by decide), lod_eq l12, s10 (by decide), lod_eq l12, s10 (by decide), bnd_some, fld_eq, s10 (by decide), fld_eq, s10 (by decide), ko_some]
    refine ⟨(((((((((fr0.up (by decide)).up (by decide)).up (by decide)).up (by decide)).up (by decide)).up (by decide)).up (by decide)).up (by decide)).up (by decide)).up (by decide), ten ?_ ?_ ?_ ?_ ?_ ?_ ?_ ?_ ?_ ?_⟩ <;> simp only [up_g, Nat.reduceEqDiff, Int.reduceEq, false_and, and_false, true_and, and_true, if_false, if_true, wT, ne, e3, e5, e6, e8, e9, e10, e12, e14, e15, a2, a3, p2, p3, p5, q1, q2, q4, q6, q7]
