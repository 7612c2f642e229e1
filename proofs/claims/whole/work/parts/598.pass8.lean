/-! a minute: cobwebs, the clock -/
theorem cP_none {f : Int → Int} {v : Int} : ∀ {n : Nat}, cP n f v = 0 → ∀ k : Nat, k < n → f k ≠ v := by
  intro n
  induction n with
  | zero => intro _ k hk; omega
  | succ n ih =>
    intro h k hk
    rw [cP] at h
    have b := cP_bd (f := f) (v := v) (n := n)
    by_cases c : f n = v
    · rw [if_pos c] at h
      omega
    · rw [if_neg c] at h
      by_cases e : k = n
      · rw [e]; exact c
      · exact ih (by omega) k (by omega)
theorem sitters_zero {τ : St} {p : Int} {n v : Nat} (v1 : v < 1048576) (hn : n ≤ 20) (v2 : ∀ i : Nat, i < 30 → (v.testBit i = true ↔ i < n ∧ τ 1 (41 + (i : Int)) = p + 1)) : (v : Int) = 0 ↔ cP n (fun p => τ 1 (41 + p)) (p + 1) = 0 := by
  constructor
  · intro e
    have e : v = 0 := by omega
    subst e
    refine cP_zero fun k hk hc => ?_
    have := (v2 k (by omega)).mpr ⟨hk, hc⟩
    rw [Nat.zero_testBit] at this
    cases this
  · intro e
    have hk := cP_none e
    have : v = 0 := by
      apply Nat.eq_of_testBit_eq
      intro i
      rw [Nat.zero_testBit]
      by_cases hi : i < 30
      · cases hb : v.testBit i with
        | false => rfl
        | true =>
          obtain ⟨h1, h2⟩ := (v2 i hi).mp hb
          exact absurd h2 (hk i h1)
      · have p2 := Nat.pow_le_pow_right (n := 2) (by decide) (show 20 ≤ i by omega)
        exact Nat.testBit_lt_two_pow (Nat.lt_of_lt_of_le v1 p2)
    omega
