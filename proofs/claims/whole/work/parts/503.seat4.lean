/-! SEATED: the class -/
theorem c_ways {σ : St} {E : Nat → Nat → Bool} {n N : Nat} {r : Int} (hn : n ≤ 8) (h1 : 1 ≤ n) (w0 : σ 48 0 = 2) (w1 : σ 48 2 = N) (hN : N ≤ 8) (w4 : ∀ i : Nat, i < N → 0 ≤ σ 49 ((i : Int) * 2) ∧ σ 49 ((i : Int) * 2) ≤ 7 ∧ 0 ≤ σ 49 ((i : Int) * 2 + 1) ∧ σ 49 ((i : Int) * 2 + 1) ≤ 7 ∧ σ 49 ((i : Int) * 2) ≠ σ 49 ((i : Int) * 2 + 1))
    (hq : ∀ a b : Nat, a < n → b < n → (hasq N (σ 49) a b ↔ E a b = true)) (hE : ∀ a b : Nat, a < n → b < n → E a b = E b a) :
    Ok (fX4_waysToSit n r σ) fun v σ' => Fr wX σ σ' ∧ ∃ T, seT E T n r (2 ^ n) ∧ v = seF E T n r n := by
  obtain ⟨p1, p2⟩ := pow8 hn
  unfold fX4_waysToSit
  rw [within_eq, ko_bnd, ko_some, ko_f (by rw [if_pos (by omega)]; decide), ko_bnd]
  refine ok_mono (c_enemies hn h1 w0 w1 hN w4) ?_
  rintro _ s ⟨fr, hm⟩
  have he : enM (s 162) E n := by
    intro a b ha hb
    obtain ⟨u1, u2, u3⟩ := hm a b ha hb
    rw [hq a b ha hb] at u3
    refine ⟨u3, ?_⟩
    obtain ⟨m, hm⟩ : ∃ n : Nat, s 162 a = n := ⟨(s 162 a).toNat, by omega⟩
    rw [hm] at u2 u3 ⊢
    rw [bit_nat (by omega) (by omega)] at u3 ⊢
    by_cases c : E a b = true
    · rw [c, u3.mpr c]
      decide
    · have c2 : ¬ m.testBit b = true := fun q => c (u3.mp (if_pos q))
      rw [if_neg c2]
      simp only [true_iff]
      simpa using c
  have hw : w32 (ishl 1 n - 1) = ((2 ^ n - 1 : Nat) : Int) := by
    rw [ishl_one n (by omega)]
    generalize 2 ^ n = m at *
    rw [w32_sm (by omega)]
    omega
  rw [ko_lb, hw, ko_bnd]
  clear hw hm w0 w1 w4 hq
  refine ok_mono (c_table (r := r) hn he) ?_
  rintro _ s' ⟨fr', ht⟩
  have f0 : Fr wX σ s' := (fr.mono (by decide)).tr (fr'.mono (by decide))
  have he : enM (s' 162) E n := (fr' 162 (by decide)).symm ▸ he
  rw [ko_bnd]
  refine for_ok n (fun i x σ' => s' = σ' ∧ x = (seF E (s' 160) n r i, (i : Int))) (by omega) ⟨rfl, rfl⟩ ?_ ?_
  · rintro i x _ hi ⟨rfl, rfl⟩
    have wi : w32 (w32 (((2 ^ n - 1 : Nat) : Int) * 8) + (i : Int)) = (((2 ^ n - 1) * 8 + i : Nat) : Int) := by
      generalize 2 ^ n = m at *
      rw [w32_l, w32_sm (by omega)]
      omega
    have li : (0 : Int) ≤ (((2 ^ n - 1) * 8 + i : Nat) : Int) ∧ (((2 ^ n - 1) * 8 + i : Nat) : Int) < (2048 : Nat) := by
      generalize 2 ^ n = m at *
      omega
    obtain ⟨e1, e2⟩ := he 0 i (by omega) hi
    rw [show ((0 : Nat) : Int) = 0 from rfl] at e1 e2
    have e3 := hE 0 i (by omega) hi
    dsimp only
    rw [ko_t (by omega), ko_bnd, seF]
    by_cases c : r = 0
    · rw [ko_t c, ko_some, ko_t rfl, wi, ko_lod, ko_lb, ko_some, ko_jl, w32_nat (by omega), if_pos (Or.inl c)]
      exact ⟨li, rfl, rfl⟩
    · rw [ko_f c, ko_lod]
      refine ⟨by decide, ?_⟩
      by_cases d : E 0 i = true
      · rw [ko_t (e1.mpr d), ko_some, ko_f (by decide), ko_some, ko_jl, w32_nat (by omega), if_neg (by rw [← e3, d]; simp [c])]
        exact ⟨rfl, rfl⟩
      · rw [ko_f (fun q => d (e1.mp q)), ko_some, ko_t rfl, wi, ko_lod, ko_lb, ko_some, ko_jl, w32_nat (by omega), if_pos (Or.inr (by rw [← e3]; simpa using d))]
        exact ⟨li, rfl, rfl⟩
  · rintro x _ ⟨rfl, rfl⟩
    rw [ko_f (Int.lt_irrefl _), ko_some, ko_jr, ko_some]
    exact ⟨f0, _, ht, rfl⟩
