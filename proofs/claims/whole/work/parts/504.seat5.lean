/-! SEATED: the reference's table, pushed -/
def seV (E : Nat → Nat → Bool) (T : Int → Int) (r : Int) (g : Nat → Nat → Nat) (s k : Nat) : Int := if s.testBit k = false then 0 else if s - 2 ^ k = 0 then seB r k else seS E T (s - 2 ^ k) k (g (s - 2 ^ k) k)
def seG (n V L N : Nat) (v k : Nat) : Nat := if v < V then n else if v = V then (if k < N then L + 1 else L) else 0
theorem seV_cong {E : Nat → Nat → Bool} {T : Int → Int} {r : Int} {g g' : Nat → Nat → Nat} {s k : Nat} (h : s.testBit k = true → s - 2 ^ k ≠ 0 → seS E T (s - 2 ^ k) k (g (s - 2 ^ k) k) = seS E T (s - 2 ^ k) k (g' (s - 2 ^ k) k)) : seV E T r g s k = seV E T r g' s k := by
  unfold seV
  by_cases c : s.testBit k = false
  · rw [if_pos c, if_pos c]
  · rw [if_neg c, if_neg c]
    by_cases d : s - 2 ^ k = 0
    · rw [if_pos d, if_pos d]
    · rw [if_neg d, if_neg d]
      exact h (by simpa using c) d
def seI (E : Nat → Nat → Bool) (T : Int → Int) (n : Nat) (r : Int) (V L N : Nat) (R : Int → Int) : Prop := ∀ s k : Nat, 1 ≤ s → s < 2 ^ n → k < n → R ((s * 8 + k : Nat) : Int) = seV E T r (seG n V L N) s k
theorem m_first {τ : St} {n : Nat} {r : Int} (hn : n ≤ 8) : Ok (bnd (itr FUEL (fun (x8 : Int) s9 =>
if x8 < 2048 then (
sto s9 47 2048 x8 0 fun s11 =>
some (.inl (w32 (x8 + 1)), s11))
else
(some (.inr (), s9) : Rs (Int ⊕ Unit))) 0 τ) fun (y12 : Unit) s13 =>
itr FUEL (fun (x15 : Int) s16 =>
if x15 < n then (
bnx (
if r = 0 then (
some (.inl x15, s16))
else
if x15 = 0 then (
some (.inl x15, s16))
else
some (.inr (.inl (w32 (x15 + 1))), s16)) fun (y18 : Int) s19 =>
sto s19 47 2048 (w32 (w32 (8 * ishl 1 y18) + y18)) 1 fun s21 =>
some (.inl (w32 (y18 + 1)), s21))
else
(some (.inr (), s16) : Rs (Int ⊕ Unit))) 0 s13) fun _ τ' => Fm [47] [] τ τ' ∧ ∀ s k : Nat, s < 256 → k < 8 → τ' 47 ((s * 8 + k : Nat) : Int) = if k < n ∧ s = 2 ^ k then seB r k else 0 := by
  rw [ko_bnd]
  refine for_ok 2048 (fun i x τ' => x = (i : Int) ∧ Fm [47] [] τ τ' ∧ ∀ q : Nat, q < i → τ' 47 q = 0) (by decide) ⟨rfl, Fm.rf, fun q hq => absurd hq (Nat.not_lt_zero q)⟩ ?_ ?_
  · rintro i x τ' hi ⟨rfl, fm, hz⟩
    rw [ko_t (by omega), ko_sto, ko_some, ko_jl]
    refine ⟨by omega, w32_nat (by omega), fm.up (by decide) (by decide), fun q hq => ?_⟩
    rw [up_at]
    by_cases e : q = i
    · rw [if_pos (by omega)]
    · rw [if_neg (by omega)]
      exact hz q (by omega)
  · rintro x τ1 ⟨rfl, fm, hz⟩
    rw [ko_f (by decide), ko_some, ko_jr]
    refine for_ok n (fun i x τ' => x = (i : Int) ∧ Fm [47] [] τ τ' ∧ ∀ s k : Nat, s < 256 → k < 8 → τ' 47 ((s * 8 + k : Nat) : Int) = if k < i ∧ s = 2 ^ k then seB r k else 0) (by omega) ⟨rfl, fm, fun s k hs hk => ?_⟩ ?_ ?_
    · rw [if_neg (by omega)]
      exact hz _ (by omega)
    · rintro i x τ' hi ⟨rfl, fm', hv⟩
      have p8 : 2 ^ i ≤ 128 := by have := Nat.pow_le_pow_right (n := 2) (by decide) (show i ≤ 7 by omega); omega
      rw [ko_t (by omega)]
      have put1 : seB r i = 1 → Ok (sto τ' 47 2048 (w32 (w32 (8 * ishl 1 (i : Int)) + (i : Int))) 1 fun s21 => (some (.inl (w32 ((i : Int) + 1)), s21) : Rs (Int ⊕ Unit))) (Jx (fun x τ'' => x = ((i + 1 : Nat) : Int) ∧ Fm [47] [] τ τ'' ∧ ∀ s k : Nat, s < 256 → k < 8 → τ'' 47 ((s * 8 + k : Nat) : Int) = if k < i + 1 ∧ s = 2 ^ k then seB r k else 0) fun _ τ' => Fm [47] [] τ τ' ∧ ∀ s k : Nat, s < 256 → k < 8 → τ' 47 ((s * 8 + k : Nat) : Int) = if k < n ∧ s = 2 ^ k then seB r k else 0) := by
        intro hb
        have hw : w32 (w32 (8 * ishl 1 (i : Int)) + (i : Int)) = ((2 ^ i * 8 + i : Nat) : Int) := by
          rw [ishl_one i (by omega)]
          generalize 2 ^ i = p at *
          rw [w32_l, w32_sm (by omega)]
          omega
        rw [hw, ko_sto, ko_some, ko_jl]
        clear hw
        refine ⟨by generalize 2 ^ i = p at *; omega, w32_nat (by omega), fm'.up (by decide) (by decide), fun s k hs hk => ?_⟩
        rw [up_at]
        by_cases e : k = i ∧ s = 2 ^ i
        · obtain ⟨rfl, rfl⟩ := e
          rw [if_pos rfl, if_pos ⟨by omega, rfl⟩, hb]
        · have e1 : ¬ (s * 8 + k = 2 ^ i * 8 + i) := by
            generalize 2 ^ i = p at *
            omega
          rw [if_neg (fun h => e1 (Int.natCast_inj.mp h)), hv s k hs hk]
          by_cases e2 : k = i
          · subst e2
            rw [if_neg (fun h => absurd h.1 (Nat.lt_irrefl k)), if_neg (fun h => e ⟨rfl, h.2⟩)]
          · by_cases e3 : k < i ∧ s = 2 ^ k
            · rw [if_pos e3, if_pos ⟨by omega, e3.2⟩]
            · rw [if_neg e3, if_neg (fun h => e3 ⟨by omega, h.2⟩)]
      by_cases c : r = 0
      · rw [if_pos c, bnx_inl]
        exact put1 (if_pos c)
      · rw [if_neg c]
        by_cases d : (i : Int) = 0
        · rw [if_pos d, bnx_inl]
          exact put1 (by unfold seB; rw [if_neg c, if_pos (by omega)])
        · rw [if_neg d, bnx_inr, ko_some, ko_jl]
          refine ⟨w32_nat (by omega), fm', fun s k hs hk => ?_⟩
          rw [hv s k hs hk]
          by_cases e2 : k = i
          · subst e2
            rw [if_neg (fun h => absurd h.1 (Nat.lt_irrefl k))]
            have hz : seB r k = 0 := by
              unfold seB
              rw [if_neg c, if_neg (fun e => d (by rw [e]; rfl))]
            rw [hz]
            split <;> rfl
          · by_cases e3 : k < i ∧ s = 2 ^ k
            · rw [if_pos e3, if_pos ⟨by omega, e3.2⟩]
            · rw [if_neg e3, if_neg (fun h => e3 ⟨by omega, h.2⟩)]
    · rintro x τ' ⟨rfl, fm', hv⟩
      rw [ko_f (Int.lt_irrefl _), ko_some, ko_jr]
      exact ⟨fm', hv⟩
