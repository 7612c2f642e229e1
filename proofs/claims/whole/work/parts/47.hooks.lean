/-! HOOKS -/
theorem dg_irm {v : Int} (h0 : 0 ≤ v) (i : Nat) : irm (v / 10 ^ i) 10 = v / 10 ^ i % 10 := irm_nn (Int.ediv_nonneg h0 (Int.pow_nonneg (by decide)))
theorem dg_idv {v : Int} (h0 : 0 ≤ v) (h1 : v ≤ 2147483647) (i : Nat) : idv (v / 10 ^ i) 10 = v / 10 ^ (i + 1) := by
  have q0 : 0 ≤ v / 10 ^ i := Int.ediv_nonneg h0 (Int.pow_nonneg (by decide))
  have q1 : v / 10 ^ i ≤ v := Int.ediv_le_self _ h0
  rw [idv_nn q0 (by decide) (by omega), Int.pow_succ, Int.ediv_ediv, if_neg (by have : (0 : Int) ≤ 10 ^ i := Int.pow_nonneg (by decide); omega), Int.sub_zero]
theorem dg_count {v : Int} (h0 : 10 ≤ v) (h1 : v ≤ 2147483647) : ∃ N : Nat, 1 ≤ N ∧ N ≤ 9 ∧ v / 10 ^ N < 10 ∧ ∀ i, i < N → 10 ≤ v / 10 ^ i := by
  have key : ∀ k : Nat, (∀ i, i < k → 10 ≤ v / 10 ^ i) ∨ ∃ N : Nat, N < k ∧ v / 10 ^ N < 10 ∧ ∀ i, i < N → 10 ≤ v / 10 ^ i := by
    intro k
    induction k with
    | zero => exact Or.inl fun i hi => absurd hi (Nat.not_lt_zero i)
    | succ k ih =>
      rcases ih with h | ⟨N, n1, n2⟩
      · by_cases c : 10 ≤ v / 10 ^ k
        · refine Or.inl fun i hi => ?_
          by_cases hik : i = k
          · rw [hik]; exact c
          · exact h i (by omega)
        · exact Or.inr ⟨k, by omega, by omega, h⟩
      · exact Or.inr ⟨N, by omega, n2⟩
  rcases key 10 with h | ⟨N, n1, n2, n3⟩
  · have := h 9 (by decide)
    rw [show (10 : Int) ^ 9 = 1000000000 from rfl] at this
    omega
  · refine ⟨N, ?_, by omega, n2, n3⟩
    apply Nat.pos_of_ne_zero
    rintro rfl
    rw [show (10 : Int) ^ 0 = 1 from rfl, Int.ediv_one] at n2
    omega
/-- the hats -/
def hatF (v : Int) (N : Nat) (q : Int) : Int := v / 10 ^ (N - 1 - q.toNat) % 10
def lbN (H : Int → Int) (k : Nat) : Nat → Nat
  | 0 => 0
  | o + 1 => lbN H k o + if k < o ∧ H o < H k then 1 else 0
theorem lbN_le {H : Int → Int} {k : Nat} : ∀ n, lbN H k n ≤ n := by
  intro n
  induction n with
  | zero => exact Nat.le_refl 0
  | succ n ih => rw [lbN]; split <;> omega
theorem lbN_low {H : Int → Int} {k : Nat} : ∀ n, n ≤ k + 1 → lbN H k n = 0 := by
  intro n
  induction n with
  | zero => intro _; rfl
  | succ n ih => intro h; rw [lbN, ih (by omega), if_neg (by omega)]
def rsP (R H : Int → Int) (k : Nat) : Nat → Int
  | 0 => 1
  | o + 1 => if o < k ∧ H o < H k then imx (rsP R H k o) (w32 (R o + 1)) else rsP R H k o
theorem rsP_cong {R S H : Int → Int} {k : Nat} : ∀ n, n ≤ k → (∀ q : Nat, q < n → R q = S q) → rsP R H k n = rsP S H k n := by
  intro n
  induction n with
  | zero => intro _ _; rfl
  | succ n ih => intro h1 h2; rw [rsP, rsP, ih (by omega) (fun q hq => h2 q (by omega)), h2 n (by omega)]
theorem rsP_high {R H : Int → Int} {k : Nat} : ∀ n, k ≤ n → rsP R H k n = rsP R H k k := by
  intro n hn
  induction n with
  | zero => rw [show k = 0 by omega]
  | succ n ih =>
    by_cases h : k = n + 1
    · rw [h]
    · rw [rsP, if_neg (by omega), ih (by omega)]
def mxR (R : Int → Int) : Nat → Int
  | 0 => 0
  | k + 1 => imx (mxR R k) (R k)
theorem mxR_cong {R S : Int → Int} : ∀ n, (∀ q : Nat, q < n → R q = S q) → mxR R n = mxR S n := by
  intro n
  induction n with
  | zero => intro _; rfl
  | succ n ih => intro h; rw [mxR, mxR, ih (fun q hq => h q (by omega)), h n (by omega)]
def isRs (R H : Int → Int) (n : Nat) : Prop := ∀ k : Nat, k < n → R k = rsP R H k k
theorem isRs_one {R S H : Int → Int} {n : Nat} (h : isRs R H n) (h2 : isRs S H n) : ∀ k : Nat, k < n → R k = S k := by
  intro k
  induction k using Nat.strongRecOn with
  | _ k ih =>
    intro hk
    rw [h k hk, h2 k hk]
    exact rsP_cong k (Nat.le_refl k) (fun q hq => ih q hq (by omega))
def trN (H : Int → Int) (n : Nat) : Nat → Int
  | 0 => 0
  | k + 1 => w32 (trN H n k + lbN H k n)
def plN (H : Int → Int) (n : Nat) : Nat → Int
  | 0 => 0
  | k + 1 => w32 (w32 (plN H n k * w32 ((n : Int) - k)) + lbN H k n)
theorem c_hang {σ : St} {v : Int} (r : rg v) : Ok (fX4_hang v σ) fun r σ' => Fr [169] σ σ' ∧ ((v < 10 ∧ r = -1) ∨ ∃ N : Nat, 1 ≤ N ∧ N ≤ 9 ∧ 10 ≤ v ∧ v / 10 ^ N < 10 ∧ (∀ i, i < N → 10 ≤ v / 10 ^ i) ∧ (if v / 10 ^ N = 1 ∧ mkD v N = w32 (ishl 1 N - 1) then r = N ∧ ∀ q : Nat, q < N → σ' 169 q = hatF v N q else r = -1)) := by
  unfold rg at r
  unfold fX4_hang
  rw [ko_bnd]
  by_cases h10 : v < 10
  · refine for_ok 0 (fun i x σ' => σ = σ' ∧ x = (0, v, 0)) (by decide) ⟨rfl, rfl⟩ (fun i _ _ hi => absurd hi (Nat.not_lt_zero i)) ?_
    rintro x σ' ⟨rfl, rfl⟩
    dsimp only
    rw [ko_t (by decide), ko_t h10, ko_some, ko_jr]
    dsimp only
    by_cases c : v = 1
    · rw [ko_t c, ko_t rfl, ko_some]
      exact ⟨Fr.rf, Or.inl ⟨h10, rfl⟩⟩
    · rw [ko_f c, ko_some]
      exact ⟨Fr.rf, Or.inl ⟨h10, rfl⟩⟩
  · obtain ⟨N, n1, n9, nl, nh⟩ := dg_count (by omega) r.2
    refine for_ok N (fun i x σ' => σ = σ' ∧ x = ((i : Int), v / 10 ^ i, (i : Int))) (by omega) ⟨rfl, by rw [show (10 : Int) ^ 0 = 1 from rfl, Int.ediv_one]; rfl⟩ ?_ ?_
    · rintro i x σ' hi ⟨rfl, rfl⟩
      have := nh i hi
      dsimp only
      rw [ko_t (by omega), ko_f (by omega), ko_dvc, ko_lb, ko_some, ko_jl, dg_idv (by omega) r.2, w32_nat (by omega)]
      exact ⟨by decide, rfl, rfl⟩
    · rintro x σ' ⟨rfl, rfl⟩
      have fin : Ok (if v / 10 ^ N = 1 then (
          if (N : Int) = 0 then (
          some ((-1), σ))
          else
          lb (w32 ((N : Int) - 1)) fun v10 =>
          bnd (itr FUEL (fun (x12 : Int × Int × Int) s13 =>
          if x12.2.2 < 0 then (
          some (.inr x12.2.1, s13))
          else
          dvc 10 <|
          sto s13 169 9 x12.2.2 (irm x12.1 10) fun s16 =>
          lod s16 169 9 x12.2.2 fun v17 =>
          lb (ior x12.2.1 (ishl 1 v17)) fun v19 =>
          dvc 10 <|
          lb (idv x12.1 10) fun v22 =>
          some (.inl (v22, v19, w32 (x12.2.2 + (-1))), s16)) (v, 0, v10) σ) fun (y24 : Int) s25 =>
          if y24 = w32 (ishl 1 N - 1) then (
          some ((N : Int), s25))
          else
          some ((-1), s25))
          else
          some ((-1), σ)) fun r σ' => Fr [169] σ σ' ∧ ((v < 10 ∧ r = -1) ∨ ∃ N : Nat, 1 ≤ N ∧ N ≤ 9 ∧ 10 ≤ v ∧ v / 10 ^ N < 10 ∧ (∀ i, i < N → 10 ≤ v / 10 ^ i) ∧ (if v / 10 ^ N = 1 ∧ mkD v N = w32 (ishl 1 N - 1) then r = N ∧ ∀ q : Nat, q < N → σ' 169 q = hatF v N q else r = -1)) := by
        by_cases c : v / 10 ^ N = 1
        · rw [ko_t c, ko_f (by omega), ko_lb, ko_bnd]
          have e0 : w32 ((N : Int) - 1) = (N : Int) - 1 := w32_sm (by omega)
          rw [e0]
          clear e0
          refine for_ok N (fun i x σ' => Fr [169] σ σ' ∧ x = (v / 10 ^ i, mkD v i, (N : Int) - 1 - i) ∧ ∀ q : Nat, N - i ≤ q → q < N → σ' 169 q = hatF v N q) (by omega) ⟨Fr.rf, by rw [show (10 : Int) ^ 0 = 1 from rfl, Int.ediv_one, Int.natCast_zero, Int.sub_zero]; rfl, fun q q0 q1 => by omega⟩ ?_ ?_
          · rintro i x σ' hi ⟨fx, rfl, hq⟩
            dsimp only
            rw [ko_f (by omega), ko_dvc, ko_sto, ko_lod, ko_lb, ko_dvc, ko_lb, ko_some, ko_jl, dg_irm (by omega), dg_idv (by omega) r.2, w32_sm (x := (N : Int) - 1 - i + -1) (by omega)]
            refine ⟨by decide, by omega, by omega, by decide, fx.up (by decide), ?_, fun q q0 q1 => ?_⟩
            · rw [up_at, if_pos rfl, show (N : Int) - 1 - i + -1 = (N : Int) - 1 - ((i + 1 : Nat) : Int) by omega]
              rfl
            · rw [up_at]
              by_cases he : (q : Int) = (N : Int) - 1 - i
              · rw [if_pos he]
                unfold hatF
                rw [Int.toNat_natCast, show N - 1 - q = i by omega]
              · rw [if_neg he]
                exact hq q (by omega) q1
          · rintro x σ' ⟨fx, rfl, hq⟩
            dsimp only
            rw [ko_t (by omega), ko_some, ko_jr]
            by_cases c2 : mkD v N = w32 (ishl 1 N - 1)
            · rw [ko_t c2, ko_some]
              refine ⟨fx, Or.inr ⟨N, n1, n9, by omega, nl, nh, ?_⟩⟩
              rw [if_pos ⟨c, c2⟩]
              exact ⟨rfl, fun q q1 => hq q (by omega) q1⟩
            · rw [ko_f c2, ko_some]
              refine ⟨fx, Or.inr ⟨N, n1, n9, by omega, nl, nh, ?_⟩⟩
              rw [if_neg (fun q => c2 q.2)]
        · rw [ko_f c, ko_some]
          refine ⟨Fr.rf, Or.inr ⟨N, n1, n9, by omega, nl, nh, ?_⟩⟩
          rw [if_neg (fun q => c q.1)]
      dsimp only
      by_cases c9 : (N : Int) < 9
      · rw [ko_t c9, ko_t nl, ko_some, ko_jr]
        exact fin
      · rw [ko_f c9, ko_some, ko_jr]
        exact fin
theorem m_hats {τ : St} {v : Int} {N : Nat} (r : v ≤ 2147483647) (n1 : 1 ≤ N) (n9 : N ≤ 9) (v10 : 10 ≤ v) (nl : v / 10 ^ N < 10) (nh : ∀ i, i < N → 10 ≤ v / 10 ^ i) : Ok (fX12_takesHats v τ) fun r τ' => Fm [28] [] τ τ' ∧ (if v / 10 ^ N = 1 ∧ mkD v N = w32 (ishl 1 N - 1) then r = N ∧ ∀ q : Nat, q < N → τ' 28 q = hatF v N q else r = -1) := by
  unfold fX12_takesHats
  rw [ko_bnd]
  refine for_ok N (fun i x τ' => τ = τ' ∧ x = ((i : Int), v / 10 ^ i)) (by omega) ⟨rfl, by rw [show (10 : Int) ^ 0 = 1 from rfl, Int.ediv_one]; rfl⟩ ?_ ?_
  · rintro i x τ' hi ⟨rfl, rfl⟩
    have := nh i hi
    dsimp only
    rw [ko_t (by omega), ko_lb, ko_dvc, ko_lb, ko_some, ko_jl, dg_idv (by omega) r, w32_nat (by omega)]
    exact ⟨by decide, rfl, rfl⟩
  · rintro x τ' ⟨rfl, rfl⟩
    dsimp only
    rw [ko_f (by omega), ko_some, ko_jr, ko_bnd, isIn_eq, if_pos (by omega), ko_some, ko_f (by decide), ko_lb, ko_bnd]
    have e0 : w32 ((N : Int) - 1) = (N : Int) - 1 := w32_sm (by omega)
    rw [e0]
    clear e0
    refine for_ok N (fun i x τ' => Fm [28] [] τ τ' ∧ x = (mkD v i, v / 10 ^ i, (N : Int) - 1 - i) ∧ ∀ q : Nat, N - i ≤ q → q < N → τ' 28 q = hatF v N q) (by omega) ⟨Fm.rf, by rw [show (10 : Int) ^ 0 = 1 from rfl, Int.ediv_one, Int.natCast_zero, Int.sub_zero]; rfl, fun q q0 q1 => by omega⟩ ?_ ?_
    · rintro i x τ' hi ⟨fm, rfl, hq⟩
      dsimp only
      rw [ko_f (by omega), ko_dvc, ko_sto, ko_dvc, ko_lb, ko_dvc, ko_lb, ko_some, ko_jl, dg_irm (by omega), dg_idv (by omega) r, w32_sm (x := (N : Int) - 1 - i + -1) (by omega)]
      refine ⟨by decide, by omega, by decide, by decide, fm.up (by decide) (by decide), ?_, fun q q0 q1 => ?_⟩
      · rw [show (N : Int) - 1 - i + -1 = (N : Int) - 1 - ((i + 1 : Nat) : Int) by omega]
        rfl
      · rw [up_at]
        by_cases he : (q : Int) = (N : Int) - 1 - i
        · rw [if_pos he]
          unfold hatF
          rw [Int.toNat_natCast, show N - 1 - q = i by omega]
        · rw [if_neg he]
          exact hq q (by omega) q1
    · rintro x τ' ⟨fm, rfl, hq⟩
      dsimp only
      rw [ko_t (by omega), ko_some, ko_jr]
      dsimp only
      by_cases c : v / 10 ^ N = 1
      · rw [ko_t c]
        by_cases c2 : mkD v N = w32 (ishl 1 N - 1)
        · rw [ko_t c2, ko_some, if_pos ⟨c, c2⟩]
          exact ⟨fm, rfl, fun q q1 => hq q (by omega) q1⟩
        · rw [ko_f c2, ko_some, if_neg (fun q => c2 q.2)]
          exact ⟨fm, rfl⟩
      · rw [ko_f c, ko_some, if_neg (fun q => c q.1)]
        exact ⟨fm, rfl⟩
