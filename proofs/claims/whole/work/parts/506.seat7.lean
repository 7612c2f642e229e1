/-! SEATED: all pushes, and the end -/
theorem m_push {τ : St} {E : Nat → Nat → Bool} {T : Int → Int} {n : Nat} {r : Int} (hn : n ≤ 8) (ht : seT E T n r (2 ^ n)) (hm : ∀ a b : Nat, a < n → b < n → (iand (ishr (τ 46 a) b) 1 = 1 ↔ E a b = true)) (hE : ∀ a b : Nat, a < n → b < n → E a b = E b a) (h0 : seI E T n r 1 0 0 (τ 47)) : Ok (itr FUEL (fun (x25 : Int) s26 =>
if x25 < ishl 1 n then (
bnd (itr FUEL (fun (x28 : Int) s29 =>
if x28 < n then (
bnd (itr FUEL (fun (x31 : Int) s32 =>
if x31 < n then (
bnd (fX12_has x25 x31 s32) fun r34 s35 =>
if r34 = 0 then (
lod s35 46 8 x28 fun v37 =>
bnd (fX12_has v37 x31 s35) fun r39 s40 =>
if r39 = 0 then (
lod s40 47 2048 (w32 (w32 (8 * ior x25 (ishl 1 x31)) + x31)) fun v42 =>
lod s40 47 2048 (w32 (w32 (8 * x25) + x28)) fun v44 =>
sto s40 47 2048 (w32 (w32 (8 * ior x25 (ishl 1 x31)) + x31)) (w32 (v42 + v44)) fun s46 =>
some (.inl (w32 (x31 + 1)), s46))
else
some (.inl (w32 (x31 + 1)), s40))
else
some (.inl (w32 (x31 + 1)), s35))
else
(some (.inr (), s32) : Rs (Int ⊕ Unit))) 0 s29) fun (y47 : Unit) s48 =>
(some (.inl (w32 (x28 + 1)), s48) : Rs (Int ⊕ Unit)))
else
some (.inr (), s29)) 0 s26) fun (y50 : Unit) s51 =>
(some (.inl (w32 (x25 + 1)), s51) : Rs (Int ⊕ Unit)))
else
some (.inr (), s26)) 1 τ) fun _ τ' => Fm [47] [] τ τ' ∧ seI E T n r (2 ^ n) 0 0 (τ' 47) := by
  obtain ⟨p1, p2⟩ := pow8 hn
  rw [ishl_one n (by omega)]
  refine for_ok (2 ^ n - 1) (fun i x τ' => x = ((i + 1 : Nat) : Int) ∧ Fm [47] [] τ τ' ∧ seI E T n r (i + 1) 0 0 (τ' 47)) (by omega) ⟨rfl, Fm.rf, h0⟩ ?_ ?_
  · rintro V x t1 hV ⟨rfl, f1, i1⟩
    have hV2 : V + 1 < 2 ^ n := by omega
    rw [ko_t (by exact_mod_cast hV2), ko_bnd]
    refine for_ok n (fun i x τ' => x = (i : Int) ∧ Fm [47] [] τ τ' ∧ seI E T n r (V + 1) i 0 (τ' 47)) (by omega) ⟨rfl, f1, i1⟩ ?_ ?_
    · rintro L x t2 hL ⟨rfl, f2, i2⟩
      rw [ko_t (by omega), ko_bnd]
      refine for_ok n (fun i x τ' => x = (i : Int) ∧ Fm [47] [] τ τ' ∧ seI E T n r (V + 1) L i (τ' 47)) (by omega) ⟨rfl, f2, i2⟩ ?_ ?_
      · rintro N x t3 hN ⟨rfl, f3, i3⟩
        have m46 : t3 46 = τ 46 := f3.1 46 (by decide) (by decide)
        have bV : V + 1 < 256 := by omega
        have bb := bit_iff (a := V + 1) (k := N) (by omega) (by omega)
        rw [ko_t (by omega), ko_bnd, has_eq, ko_some]
        by_cases c : (V + 1).testBit N = true
        · rw [ko_f (by rw [if_pos (bb.mpr c)]; decide), ko_some, ko_jl]
          exact ⟨w32_nat (by omega), f3, seI_skip hn i3 hV2 hN (Or.inl c)⟩
        · have c' : (V + 1).testBit N = false := by simpa using c
          rw [ko_t (if_neg (fun q => c (bb.mp q))), ko_lod]
          refine ⟨by omega, ?_⟩
          rw [ko_bnd, has_eq, ko_some, m46]
          by_cases d : E L N = true
          · rw [ko_f (by rw [if_pos ((hm L N hL hN).mpr d)]; decide), ko_some, ko_jl]
            exact ⟨w32_nat (by omega), f3, seI_skip hn i3 hV2 hN (Or.inr (by rw [hE N L hN hL]; exact d))⟩
          · have d' : E N L = false := by rw [hE N L hN hL]; simpa using d
            have hin := bits_in hn hV2 hN c'
            have hor : ior ((V + 1 : Nat) : Int) (ishl 1 N) = ((V + 1 + 2 ^ N : Nat) : Int) := by
              have pN : 2 ^ N ≤ 128 := by have := Nat.pow_le_pow_right (n := 2) (by decide) (show N ≤ 7 by omega); omega
              rw [ishl_one N (by omega), ior_nat (by omega) (by omega), ((bits8 (V + 1) bV N (by omega)).2 c').1]
            have st := seI_push hn ht i3 (by omega) hV2 hL hN c' d'
            rw [ko_t (if_neg (fun q => d ((hm L N hL hN).mp q))), hor]
            clear hor bb hm h0 i1 i2 i3 ht m46
            have hs : V + 1 + 2 ^ N < 256 := by omega
            generalize V + 1 + 2 ^ N = S at *
            have w1 : w32 (w32 (8 * (S : Int)) + (N : Int)) = ((S * 8 + N : Nat) : Int) := by
              rw [w32_l, w32_sm (by omega)]
              omega
            have w2 : w32 (w32 (8 * ((V + 1 : Nat) : Int)) + (L : Int)) = (((V + 1) * 8 + L : Nat) : Int) := by
              rw [w32_l, w32_sm (by omega)]
              omega
            rw [w1, w2, ko_lod, ko_lod, ko_sto, ko_some, ko_jl]
            exact ⟨by omega, by omega, by omega, w32_nat (by omega), f3.up (by decide) (by decide), st⟩
      · rintro x t3 ⟨rfl, f3, i3⟩
        rw [ko_f (Int.lt_irrefl _), ko_some, ko_jr, ko_some, ko_jl]
        exact ⟨w32_nat (by omega), f3, seI_last i3⟩
    · rintro x t2 ⟨rfl, f2, i2⟩
      rw [ko_f (Int.lt_irrefl _), ko_some, ko_jr, ko_some, ko_jl]
      exact ⟨w32_nat (by omega), f2, seI_set i2⟩
  · rintro x t1 ⟨rfl, f1, i1⟩
    rw [show 2 ^ n - 1 + 1 = 2 ^ n by omega] at i1 ⊢
    rw [ko_f (Int.lt_irrefl _), ko_some, ko_jr]
    exact ⟨f1, i1⟩
theorem seI_end {E : Nat → Nat → Bool} {T : Int → Int} {n : Nat} {r : Int} {R : Int → Int} (ht : seT E T n r (2 ^ n)) (hi : seI E T n r (2 ^ n) 0 0 R) {s k : Nat} (h1 : 1 ≤ s) (h2 : s < 2 ^ n) (hk : k < n) : R ((s * 8 + k : Nat) : Int) = T ((s * 8 + k : Nat) : Int) := by
  rw [hi s k h1 h2 hk, ht s k h1 h2 hk]
  unfold seV seR
  rw [show seG n (2 ^ n) 0 0 (s - 2 ^ k) k = n from if_pos (Nat.lt_of_le_of_lt (Nat.sub_le s _) h2)]
