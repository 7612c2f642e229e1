/-! SEATED: the class's table -/
def seT (E : Nat → Nat → Bool) (T : Int → Int) (n : Nat) (r : Int) (m : Nat) : Prop := ∀ s k : Nat, 1 ≤ s → s < m → k < n → T ((s * 8 + k : Nat) : Int) = seR E T n r s k
theorem c_table {σ : St} {E : Nat → Nat → Bool} {n : Nat} {r : Int} (hn : n ≤ 8) (hE : enM (σ 162) E n) : Ok (itr FUEL (fun (x9 : Int) s10 =>
if ((2 ^ n - 1 : Nat) : Int) < x9 then (
some (.inr (), s10))
else
bnd (itr FUEL (fun (x12 : Int) s13 =>
if x12 < n then (
bnd (fX4_seatBehind x9 x12 n r s13) fun r15 s16 =>
sto s16 160 2048 (w32 (w32 (x9 * 8) + x12)) r15 fun s18 =>
some (.inl (w32 (x12 + 1)), s18))
else
(some (.inr (), s13) : Rs (Int ⊕ Unit))) 0 s10) fun (y19 : Unit) s20 =>
(some (.inl (w32 (x9 + 1)), s20) : Rs (Int ⊕ Unit))) 1 σ) fun _ σ' => Fr [160] σ σ' ∧ seT E (σ' 160) n r (2 ^ n) := by
  obtain ⟨p1, p2⟩ := pow8 hn
  unfold seT
  generalize 2 ^ n = m at *
  refine for_ok (m - 1) (fun i x σ' => x = ((i + 1 : Nat) : Int) ∧ Fr [160] σ σ' ∧ ∀ s k : Nat, 1 ≤ s → s < i + 1 → k < n → σ' 160 ((s * 8 + k : Nat) : Int) = seR E (σ' 160) n r s k) (by omega) ⟨rfl, Fr.rf, fun s k _ _ _ => by omega⟩ ?_ ?_
  · rintro i x σ' hi ⟨rfl, fr, ht⟩
    rw [ko_f (by omega), ko_bnd]
    refine for_ok n (fun j x σ'' => x = (j : Int) ∧ Fr [160] σ σ'' ∧ (∀ s k : Nat, 1 ≤ s → s < i + 1 → k < n → σ'' 160 ((s * 8 + k : Nat) : Int) = seR E (σ'' 160) n r s k) ∧ ∀ k : Nat, k < j → σ'' 160 (((i + 1) * 8 + k : Nat) : Int) = seR E (σ'' 160) n r (i + 1) k) (by omega) ⟨rfl, fr, ht, fun k hk => by omega⟩ ?_ ?_
    · rintro j x s hj ⟨rfl, fs, h1, h2⟩
      have h162 : s 162 = σ 162 := fs 162 (by decide)
      rw [ko_t (by omega), ko_bnd]
      refine ok_mono (c_behind (r := r) hn (h162 ▸ hE) (s := i + 1) (by omega) hj) ?_
      rintro v s' ⟨rfl, rfl⟩
      have hw : w32 (w32 (((i + 1 : Nat) : Int) * 8) + (j : Int)) = (((i + 1) * 8 + j : Nat) : Int) := by rw [w32_l, w32_sm (by omega)]; omega
      rw [hw, ko_sto, ko_some, ko_jl]
      clear hw h162 fr ht
      have hc : ∀ s0 k : Nat, s0 ≤ i + 1 → seR E (s 160) n r s0 k = seR E (up s 160 (((i + 1) * 8 + j : Nat) : Int) (seR E (s 160) n r (i + 1) j) 160) n r s0 k := fun s0 k hs0 => seR_cong fun v q hv hq => by
        rw [up_at, if_neg (by omega)]
      refine ⟨by omega, w32_nat (by omega), fs.up (by decide), fun s0 k hs0 hs1 hk => ?_, fun k hk => ?_⟩
      · rw [← hc s0 k (by omega), up_at, if_neg (by omega), h1 s0 k hs0 hs1 hk]
      · rw [← hc (i + 1) k (by omega), up_at]
        by_cases e : k = j
        · rw [if_pos (by omega), e]
        · rw [if_neg (by omega), h2 k (by omega)]
    · rintro x s ⟨rfl, fs, h1, h2⟩
      rw [ko_f (by omega), ko_some, ko_jr, ko_some, ko_jl]
      refine ⟨w32_nat (by omega), fs, fun s0 k hs0 hs1 hk => ?_⟩
      by_cases e : s0 = i + 1
      · rw [e]; exact h2 k hk
      · exact h1 s0 k hs0 (by omega) hk
  · rintro x σ' ⟨rfl, fr, ht⟩
    rw [ko_t (by omega), ko_some, ko_jr]
    exact ⟨fr, fun s k h1 h2 hk => ht s k h1 (by omega) hk⟩
