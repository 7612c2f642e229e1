/-! SEATED -/
theorem m_total {τ : St} {E : Nat → Nat → Bool} {T : Int → Int} {n : Nat} {r : Int} (hn : n ≤ 8) (h1 : 1 ≤ n) (hm : ∀ a b : Nat, a < n → b < n → (iand (ishr (τ 46 a) b) 1 = 1 ↔ E a b = true)) (hR : ∀ k : Nat, k < n → τ 47 (((2 ^ n - 1) * 8 + k : Nat) : Int) = T (((2 ^ n - 1) * 8 + k : Nat) : Int)) : Ok (itr FUEL (fun (x56 : Int × Int) s57 =>
if x56.2 < n then (
bnx (
if r = 0 then (
some (.inl x56.2, s57))
else
lod s57 46 8 x56.2 fun v59 =>
bnd (fX12_has v59 0 s57) fun r61 s62 =>
if r61 = 0 then (
some (.inl x56.2, s62))
else
some (.inr (.inl (x56.1, w32 (x56.2 + 1))), s62)) fun (y64 : Int) s65 =>
lod s65 47 2048 (w32 (w32 (8 * w32 (ishl 1 n - 1)) + y64)) fun v67 =>
lb (w32 (x56.1 + v67)) fun v69 =>
some (.inl (v69, w32 (y64 + 1)), s65))
else
(some (.inr x56.1, s57) : Rs ((Int × Int) ⊕ Int))) (0, 0) τ) fun v τ' => τ = τ' ∧ v = seF E T n r n := by
  obtain ⟨p1, p2⟩ := pow8 hn
  refine for_ok n (fun i x τ' => τ = τ' ∧ x = (seF E T n r i, (i : Int))) (by omega) ⟨rfl, rfl⟩ ?_ ?_
  · rintro i x _ hi ⟨rfl, rfl⟩
    have hr := hR i hi
    have m0 := hm i 0 hi (by omega)
    rw [show ((0 : Nat) : Int) = 0 from rfl] at m0
    rw [ishl_one n (by omega)]
    dsimp only
    rw [seF]
    generalize 2 ^ n = m at *
    have wi : w32 (w32 (8 * w32 ((m : Int) - 1)) + (i : Int)) = (((m - 1) * 8 + i : Nat) : Int) := by
      rw [show w32 ((m : Int) - 1) = (m : Int) - 1 from w32_sm (by omega), w32_l, w32_sm (by omega)]
      omega
    rw [ko_t (by omega)]
    by_cases c : r = 0
    · rw [if_pos c, bnx_inl, wi, ko_lod, ko_lb, ko_some, ko_jl, hr, w32_nat (by omega), if_pos (Or.inl c)]
      exact ⟨by omega, rfl, rfl⟩
    · rw [if_neg c, lod_eq (by omega), has_eq, bnd_some]
      by_cases d : E i 0 = true
      · rw [if_pos (m0.mpr d), if_neg (by decide), bnx_inr, ko_some, ko_jl, w32_nat (by omega), if_neg (by rw [d]; simp [c])]
        exact ⟨rfl, rfl⟩
      · rw [if_neg (fun q => d (m0.mp q)), if_pos rfl, bnx_inl, wi, ko_lod, ko_lb, ko_some, ko_jl, hr, w32_nat (by omega), if_pos (Or.inr (by simpa using d))]
        exact ⟨by omega, rfl, rfl⟩
  · rintro x _ ⟨rfl, rfl⟩
    rw [ko_f (Int.lt_irrefl _), ko_some, ko_jr]
    exact ⟨rfl, rfl⟩
theorem s_seated {σ τ : St} (h : Rl σ τ) {p1 p2 : Int} : Sim (fX11_seated p1 p2 σ) (fX12_seated p1 p2 τ) := by
  unfold fX12_seated
  refine sim_t0 h ?_
  clear h
  intro τ h
  refine Sim.of h ?_
  unfold fX11_seated
  by_cases c1 : 1 ≤ p1 ∧ p1 ≤ 8
  · by_cases c2 : 0 ≤ p2 ∧ p2 ≤ 1
    · have hp : (if p2 = 1 then (some (1, σ) : Rs Int) else some (0, σ)) = some (p2, σ) := by
        by_cases e : p2 = 1
        · rw [if_pos e, e]
        · rw [if_neg e, show p2 = 0 by omega]
      rw [within_eq, isIn_eq, if_pos c1, bnd_some, bnd_some, if_neg (show ¬ ((1 : Int) = 0) by decide), if_neg (show ¬ ((1 : Int) = 0) by decide), within_eq, isIn_eq, if_pos c2, bnd_some, bnd_some, if_neg (show ¬ ((1 : Int) = 0) by decide), if_neg (show ¬ ((1 : Int) = 0) by decide), hp, bnd_some]
      clear hp
      obtain ⟨⟨w0, w1, w2, w3⟩, w4, w5⟩ := h.c_RQuar
      clear h
      simp only [Nat.reduceAdd] at w0 w1 w4 w5
      obtain ⟨n, rfl⟩ : ∃ n : Nat, p1 = n := ⟨p1.toNat, by omega⟩
      obtain ⟨N, hN⟩ : ∃ N : Nat, τ 0 72 = N := ⟨(τ 0 72).toNat, by omega⟩
      rw [hN] at w1 w2 w3 w4 w5
      have hm : ∀ a b : Nat, a < n → b < n → (iand (ishr (τ 46 a) b) 1 = 1 ↔ (fun a b : Nat => decide (iand (ishr (τ 46 a) b) 1 = 1)) a b = true) := fun a b _ _ => (decide_eq_true_iff).symm
      have hq : ∀ a b : Nat, a < n → b < n → (hasq N (σ 49) a b ↔ (fun a b : Nat => decide (iand (ishr (τ 46 a) b) 1 = 1)) a b = true) := fun a b ha hb => by
        rw [← hm a b ha hb]
        exact (w5 a b (by omega) (by omega) (by omega) (by omega)).2.2.symm
      have hs : ∀ a b : Nat, a < n → b < n → (fun a b : Nat => decide (iand (ishr (τ 46 a) b) 1 = 1)) a b = (fun a b : Nat => decide (iand (ishr (τ 46 a) b) 1 = 1)) b a := fun a b ha hb => by
        rw [Bool.eq_iff_iff, ← hq a b ha hb, ← hq b a hb ha]
        unfold hasq
        constructor
        · rintro ⟨i, i0, i1, hc⟩
          exact ⟨i, i0, i1, hc.symm⟩
        · rintro ⟨i, i0, i1, hc⟩
          exact ⟨i, i0, i1, hc.symm⟩
      clear w5
      generalize (fun a b : Nat => decide (iand (ishr (τ 46 a) b) 1 = 1)) = E at *
      have hn : n ≤ 8 := by omega
      have h1 : 1 ≤ n := by omega
      obtain ⟨q1, q2⟩ := pow8 hn
      refine ok2_l (ok_mono (c_ways (r := p2) hn h1 w0 w1 (by omega) (fun i hi => w4 i (by omega) (by omega)) hq hs) ?_)
      rintro v σ' ⟨fx, T, ht, rfl⟩
      have mf := m_first (τ := τ) (r := p2) hn
      rw [ko_bnd] at mf
      refine ok2_r (ok_mono mf ?_)
      clear mf
      rintro _ t1 mf
      refine ok2_r (ok_mono mf ?_)
      clear mf
      rintro _ t2 ⟨f2, hv⟩
      have hm2 : ∀ a b : Nat, a < n → b < n → (iand (ishr (t2 46 a) b) 1 = 1 ↔ E a b = true) := by
        rw [f2.1 46 (by decide) (by decide)]
        exact hm
      refine ok2_r (ok_mono (m_push hn ht hm2 hs (seI_first hn hv)) ?_)
      rintro _ t3 ⟨f3, hi⟩
      have hm3 : ∀ a b : Nat, a < n → b < n → (iand (ishr (t3 46 a) b) 1 = 1 ↔ E a b = true) := by
        rw [f3.1 46 (by decide) (by decide)]
        exact hm2
      have n2 : 2 ≤ 2 ^ n := by
        have := Nat.pow_le_pow_right (n := 2) (by decide) h1
        omega
      refine ok2_r (ok_mono (m_total (T := T) (r := p2) hn h1 hm3 fun k hk => seI_end ht hi (by omega) (by omega) hk) ?_)
      rintro v t4 ⟨rfl, rfl⟩
      rw [ok2_some]
      exact ⟨rfl, fx, (f2.tr f3).mono (by decide) (by decide)⟩
    · rw [within_eq, isIn_eq, if_pos c1, bnd_some, bnd_some, if_neg (show ¬ ((1 : Int) = 0) by decide), if_neg (show ¬ ((1 : Int) = 0) by decide), within_eq, isIn_eq, if_neg c2, bnd_some, bnd_some, if_pos rfl, if_pos rfl, ok2_some]
      exact ⟨rfl, Fr.rf, Fm.rf⟩
  · rw [within_eq, isIn_eq, if_neg c1, bnd_some, bnd_some, if_pos rfl, if_pos rfl, ok2_some]
    exact ⟨rfl, Fr.rf, Fm.rf⟩
