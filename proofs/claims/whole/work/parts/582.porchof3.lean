/-! PORCHOF: the feet -/
theorem fm_pos {C : Int → Int} {a b : Int} : ∀ {n : Nat}, (∀ k : Nat, k < n → 1 ≤ C ((k : Int) * 4 + 2)) → 0 ≤ fm n C a b := by
  intro n
  induction n with
  | zero => intro _; exact Int.le_refl 0
  | succ n ih =>
    intro h
    have := ih fun k hk => h k (by omega)
    have := h n (by omega)
    rw [fm]
    (repeat' split) <;> omega
theorem c_feet {σ : St} {a b : Int} {n : Nat} (w0 : σ 26 0 = 4) (w1 : σ 26 2 = n) (hn : n ≤ 16) (hC : ∀ k : Nat, k < n → 1 ≤ σ 27 ((k : Int) * 4 + 2)) : Ok (fX9_feet a b σ) fun v σ' => σ = σ' ∧ v = if fm n (σ 27) a b = 0 then -1 else fm n (σ 27) a b := by
  unfold fX9_feet
  rw [ko_bnd]
  refine for_ok n (fun i x σ' => σ = σ' ∧ x = (if fm i (σ 27) a b = 0 then -1 else fm i (σ 27) a b, (i : Int))) (by omega) ⟨rfl, rfl⟩ ?_ ?_
  · rintro i x _ hi ⟨rfl, rfl⟩
    have hp := fm_pos (a := a) (b := b) (n := i) fun k hk => hC k (by omega)
    have hi2 := hC i hi
    have get : ∀ q : Int, 0 ≤ q → q < 4 → fX6_get 26 27 64 i q σ = some (σ 27 ((i : Int) * 4 + q), σ) := fun q q0 q1 => by
      rw [row_get w0 (by decide) (by omega) (by decide), if_pos (by omega)]
    have g0 := get 0 (by decide) (by decide)
    have g1 := get 1 (by decide) (by decide)
    have g2 := get 2 (by decide) (by decide)
    rw [Int.add_zero] at g0
    have wi : w32 ((i : Int) + 1) = ((i + 1 : Nat) : Int) := w32_nat (by omega)
    dsimp only
    rw [row_size, bnd_some, w1, ko_t (by omega), g0, bnd_some, g1, bnd_some, fm, wi]
    clear get g0 g1 hC w0 w1 wi
    generalize σ 27 ((i : Int) * 4) = x at *
    generalize σ 27 ((i : Int) * 4 + 1) = y at *
    generalize σ 27 ((i : Int) * 4 + 2) = z at *
    generalize fm i (σ 27) a b = f at *
    have mt : (if x = a then (if y = b then (some (1, σ) : Rs Int) else if x = b then (if y = a then some (1, σ) else some (0, σ)) else some (0, σ)) else if x = b then (if y = a then some (1, σ) else some (0, σ)) else some (0, σ)) = some (if (x = a ∧ y = b) ∨ (x = b ∧ y = a) then 1 else 0, σ) := by
      clear hp hi2
      (repeat' split) <;> first | rfl | (exfalso; omega)
    rw [mt, bnd_some, g2, bnd_some]
    by_cases c : (x = a ∧ y = b) ∨ (x = b ∧ y = a)
    · rw [if_pos c, if_pos c, ko_f (by decide)]
      by_cases d : f = 0
      · rw [if_pos d, ko_t rfl, ko_some, ko_jl, if_pos (Or.inl d), if_neg (by omega)]
        exact ⟨rfl, rfl⟩
      · rw [if_neg d, ko_f (by omega)]
        by_cases e : z < f
        · rw [ko_t e, ko_some, ko_jl, if_pos (Or.inr e), if_neg (by omega)]
          exact ⟨rfl, rfl⟩
        · rw [ko_f e, ko_some, ko_jl, if_neg (show ¬ (f = 0 ∨ z < f) by omega), if_neg d]
          exact ⟨rfl, rfl⟩
    · rw [if_neg c, if_neg c, ko_t rfl, ko_some, ko_jl]
      exact ⟨rfl, rfl⟩
  · rintro x _ ⟨rfl, rfl⟩
    rw [row_size, bnd_some, w1, ko_f (Int.lt_irrefl _), ko_some, ko_jr, ko_some]
    exact ⟨rfl, rfl⟩
