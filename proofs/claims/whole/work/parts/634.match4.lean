/-! MATCHED: settled -/
/-- no two would rather have each other -/
def svP (D : Int → Int) (P : Nat → Nat) : Prop := ∀ i j : Nat, i < 5 → j < 5 → ¬ (D (5 * (i : Int) + (P j : Nat)) < D (5 * (i : Int) + (P i : Nat)) ∧ D (5 * (5 + (P j : Nat)) + (i : Int)) < D (5 * (5 + (P j : Nat)) + (j : Int)))
noncomputable def gS (D : Int → Int) (P : Nat → Nat) : Int := @ite _ (svP D P) (Classical.propDecidable _) 1 0
theorem gS_1 {D : Int → Int} {P : Nat → Nat} (h : svP D P) : gS D P = 1 := if_pos h
theorem gS_0 {D : Int → Int} {P : Nat → Nat} (h : ¬ svP D P) : gS D P = 0 := if_neg h
theorem gS_01 {D : Int → Int} {P : Nat → Nat} : gS D P = 0 ∨ gS D P = 1 := by
  by_cases h : svP D P
  · exact Or.inr (gS_1 h)
  · exact Or.inl (gS_0 h)
theorem gS_cong {D : Int → Int} {P Q : Nat → Nat} (h : ∀ i, i < 5 → P i = Q i) : gS D P = gS D Q := by
  have e : svP D P ↔ svP D Q := by
    unfold svP
    constructor
    · intro q i j hi hj
      rw [← h i hi, ← h j hj]
      exact q i j hi hj
    · intro q i j hi hj
      rw [h i hi, h j hj]
      exact q i j hi hj
  by_cases c : svP D P
  · rw [gS_1 c, gS_1 (e.mp c)]
  · rw [gS_0 c, gS_0 fun x => c (e.mpr x)]
theorem c_isSettled {f : Int → Int → Int} {σ τ : St} {P : Nat → Nat} (hf : WP f) (w0 : σ 28 0 = 5) (w2 : σ 28 2 = 10) (hw : ∀ w k : Nat, w < 10 → k < 5 → σ 29 ((w : Int) * 5 + k) = f w k) (hW : WF f τ) (hP : ∀ i : Nat, i < 5 → σ 156 i = P i ∧ P i < 5) : fX0_isSettled σ = some (gS (τ 24) P, σ) := by
  apply ok_eq
  unfold fX0_isSettled
  rw [ko_bnx]
  refine for_ok 5 (fun i x t => x = (i : Int) ∧ σ = t ∧ ∀ i' j : Nat, i' < i → j < 5 → ¬ (τ 24 (5 * (i' : Int) + (P j : Nat)) < τ 24 (5 * (i' : Int) + (P i' : Nat)) ∧ τ 24 (5 * (5 + (P j : Nat)) + (i' : Int)) < τ 24 (5 * (5 + (P j : Nat)) + (j : Int)))) (by decide) ⟨rfl, rfl, fun i' j h => absurd h (Nat.not_lt_zero i')⟩ ?_ ?_
  · rintro i x _ hi ⟨rfl, rfl, hg⟩
    have wi := (wq4 (i := i) (by omega)).1
    rw [ko_t (by omega), ko_bnx]
    refine for_ok 5 (fun j x t => x = (j : Int) ∧ σ = t ∧ ∀ j' : Nat, j' < j → ¬ (τ 24 (5 * (i : Int) + (P j' : Nat)) < τ 24 (5 * (i : Int) + (P i : Nat)) ∧ τ 24 (5 * (5 + (P j' : Nat)) + (i : Int)) < τ 24 (5 * (5 + (P j' : Nat)) + (j' : Int)))) (by decide) ⟨rfl, rfl, fun j' h => absurd h (Nat.not_lt_zero j')⟩ ?_ ?_
    · rintro j x _ hj ⟨rfl, rfl, hh⟩
      have wj := (wq4 (i := j) (by omega)).1
      have pi := hP i hi
      have pj := hP j hj
      have go : ¬ (τ 24 (5 * (i : Int) + (P j : Nat)) < τ 24 (5 * (i : Int) + (P i : Nat)) ∧ τ 24 (5 * (5 + (P j : Nat)) + (i : Int)) < τ 24 (5 * (5 + (P j : Nat)) + (j : Int))) → ∀ j' : Nat, j' < j + 1 → ¬ (τ 24 (5 * (i : Int) + (P j' : Nat)) < τ 24 (5 * (i : Int) + (P i : Nat)) ∧ τ 24 (5 * (5 + (P j' : Nat)) + (i : Int)) < τ 24 (5 * (5 + (P j' : Nat)) + (j' : Int))) := fun h j' h2 => by
        by_cases e : j' = j
        · rw [e]; exact h
        · exact hh j' (by omega)
      rw [ko_t (by omega)]
      by_cases e : (i : Int) = j
      · have e' : i = j := by omega
        subst e'
        rw [ko_t rfl, ko_some, ko_jl, wj.o]
        exact ⟨rfl, rfl, go fun h => by have := h.1; omega⟩
      · have f1 := c_pref (f := f) (σ := σ) (τ := τ) (s := 0) (i := i) (o := (P j : Nat)) (o' := (P i : Nat)) hf w0 w2 hw hW (by omega) (by omega) (by omega) (by omega) (by omega)
        have f2 := c_pref (f := f) (σ := σ) (τ := τ) (s := 1) (i := P j) (o := (i : Int)) (o' := (j : Int)) hf w0 w2 hw hW (by omega) (by omega) (by omega) (by omega) (by omega)
        rw [show ((5 * 0 + i : Nat) : Int) = (i : Int) by omega, nc0] at f1
        rw [show ((5 * 1 + P j : Nat) : Int) = 5 + ((P j : Nat) : Int) by omega, nc1] at f2
        rw [ko_f e, lod_eq (by omega), lod_eq (by omega), pi.1, pj.1, f1, bnd_some]
        by_cases d1 : τ 24 (5 * (i : Int) + (P j : Nat)) < τ 24 (5 * (i : Int) + (P i : Nat))
        · rw [if_pos d1, ko_f (by decide), lod_eq (by omega), pj.1, f2, bnd_some]
          by_cases d2 : τ 24 (5 * (5 + (P j : Nat)) + (i : Int)) < τ 24 (5 * (5 + (P j : Nat)) + (j : Int))
          · rw [if_pos d2, ko_f (by decide), ko_some, ko_jr, ko_jr, ko_jr, ko_jl, ko_some]
            exact ⟨(gS_0 fun q => q i j hi hj ⟨d1, d2⟩).symm, rfl⟩
          · rw [if_neg d2, ko_t rfl, ko_some, ko_jl, wj.o]
            exact ⟨rfl, rfl, go fun h => d2 h.2⟩
        · rw [if_neg d1, ko_t rfl, ko_some, ko_jl, wj.o]
          exact ⟨rfl, rfl, go fun h => d1 h.1⟩
    · rintro x _ ⟨rfl, rfl, hh⟩
      rw [ko_f (by decide), ko_some, ko_jr, ko_jl, ko_some, ko_jl, wi.o]
      refine ⟨rfl, rfl, fun i' j h hj => ?_⟩
      by_cases e : i' = i
      · rw [e]; exact hh j hj
      · exact hg i' j (by omega) hj
  · rintro x _ ⟨rfl, rfl, hg⟩
    rw [ko_f (by decide), ko_some, ko_jr, ko_jr]
    exact ⟨(gS_1 fun i j hi hj => hg i j hi hj).symm, rfl⟩
theorem m_isSettled {τ : St} {P : Nat → Nat} (hP : ∀ i : Nat, i < 5 → τ 28 i = P i ∧ P i < 5) : fX12_isSettled τ = some (gS (τ 24) P, τ) := by
  apply ok_eq
  unfold fX12_isSettled
  rw [ko_bnx]
  refine for_ok 5 (fun i x t => x = (i : Int) ∧ τ = t ∧ ∀ i' j : Nat, i' < i → j < 5 → ¬ (τ 24 (5 * (i' : Int) + (P j : Nat)) < τ 24 (5 * (i' : Int) + (P i' : Nat)) ∧ τ 24 (5 * (5 + (P j : Nat)) + (i' : Int)) < τ 24 (5 * (5 + (P j : Nat)) + (j : Int)))) (by decide) ⟨rfl, rfl, fun i' j h => absurd h (Nat.not_lt_zero i')⟩ ?_ ?_
  · rintro i x _ hi ⟨rfl, rfl, hg⟩
    have wi := (wq4 (i := i) (by omega)).1
    rw [ko_t (by omega), ko_bnx]
    refine for_ok 5 (fun j x t => x = (j : Int) ∧ τ = t ∧ ∀ j' : Nat, j' < j → ¬ (τ 24 (5 * (i : Int) + (P j' : Nat)) < τ 24 (5 * (i : Int) + (P i : Nat)) ∧ τ 24 (5 * (5 + (P j' : Nat)) + (i : Int)) < τ 24 (5 * (5 + (P j' : Nat)) + (j' : Int)))) (by decide) ⟨rfl, rfl, fun j' h => absurd h (Nat.not_lt_zero j')⟩ ?_ ?_
    · rintro j x _ hj ⟨rfl, rfl, hh⟩
      have wj := (wq4 (i := j) (by omega)).1
      have pi := hP i hi
      have pj := hP j hj
      have go : ¬ (τ 24 (5 * (i : Int) + (P j : Nat)) < τ 24 (5 * (i : Int) + (P i : Nat)) ∧ τ 24 (5 * (5 + (P j : Nat)) + (i : Int)) < τ 24 (5 * (5 + (P j : Nat)) + (j : Int))) → ∀ j' : Nat, j' < j + 1 → ¬ (τ 24 (5 * (i : Int) + (P j' : Nat)) < τ 24 (5 * (i : Int) + (P i : Nat)) ∧ τ 24 (5 * (5 + (P j' : Nat)) + (i : Int)) < τ 24 (5 * (5 + (P j' : Nat)) + (j' : Int))) := fun h j' h2 => by
        by_cases e : j' = j
        · rw [e]; exact h
        · exact hh j' (by omega)
      have k1 := Hd.m (show w32 (w32 (5 * (i : Int)) + ((P j : Nat) : Int)) = 5 * (i : Int) + (P j : Nat) by rw [w32_l, w32_sm (by omega)])
      have k2 := Hd.m (show w32 (w32 (5 * (i : Int)) + ((P i : Nat) : Int)) = 5 * (i : Int) + (P i : Nat) by rw [w32_l, w32_sm (by omega)])
      have k3 := Hd.m (show w32 (w32 (5 * w32 (5 + ((P j : Nat) : Int))) + (i : Int)) = 5 * (5 + (P j : Nat)) + (i : Int) by rw [w32_sm (x := 5 + ((P j : Nat) : Int)) (by omega), w32_l, w32_sm (by omega)])
      have k4 := Hd.m (show w32 (w32 (5 * w32 (5 + ((P j : Nat) : Int))) + (j : Int)) = 5 * (5 + (P j : Nat)) + (j : Int) by rw [w32_sm (x := 5 + ((P j : Nat) : Int)) (by omega), w32_l, w32_sm (by omega)])
      rw [ko_t (by omega), lod_eq (by omega), pj.1, k1.o, lod_eq (by omega), lod_eq (by omega), pi.1, k2.o, lod_eq (by omega)]
      by_cases d1 : τ 24 (5 * (i : Int) + (P j : Nat)) < τ 24 (5 * (i : Int) + (P i : Nat))
      · rw [ko_t d1, k3.o, lod_eq (by omega), k4.o, lod_eq (by omega)]
        by_cases d2 : τ 24 (5 * (5 + (P j : Nat)) + (i : Int)) < τ 24 (5 * (5 + (P j : Nat)) + (j : Int))
        · rw [ko_t d2, ko_some, ko_jr, ko_jr, ko_jr, ko_jl, ko_some]
          exact ⟨(gS_0 fun q => q i j hi hj ⟨d1, d2⟩).symm, rfl⟩
        · rw [ko_f d2, ko_some, ko_jl, wj.o]
          exact ⟨rfl, rfl, go fun h => d2 h.2⟩
      · rw [ko_f d1, ko_some, ko_jl, wj.o]
        exact ⟨rfl, rfl, go fun h => d1 h.1⟩
    · rintro x _ ⟨rfl, rfl, hh⟩
      rw [ko_f (by decide), ko_some, ko_jr, ko_jl, ko_some, ko_jl, wi.o]
      refine ⟨rfl, rfl, fun i' j h hj => ?_⟩
      by_cases e : i' = i
      · rw [e]; exact hh j hj
      · exact hg i' j (by omega) hj
  · rintro x _ ⟨rfl, rfl, hg⟩
    rw [ko_f (by decide), ko_some, ko_jr, ko_jr]
    exact ⟨(gS_1 fun i j hi hj => hg i j hi hj).symm, rfl⟩
