/-! ROCKS -/
theorem crt_step {m s p f k c : Nat} (hs : 0 < s) (hp : 0 < p) (hm : m < s) (hk : (m + k * s) % p = f) (hmin : ∀ k', k' < k → (m + k' * s) % p ≠ f) (c0 : 0 < c) (hc : (c * s) % p = 0) (cmin : ∀ c', 0 < c' → c' < c → (c' * s) % p ≠ 0) :
    m + k * s < c * s ∧ ∀ t, (t % s = m ∧ t % p = f) ↔ t % (c * s) = m + k * s := by
  obtain ⟨q, hq⟩ : ∃ q, c * s = p * q := ⟨c * s / p, by have := Nat.div_add_mod (c * s) p; omega⟩
  have kc : k < c := by
    apply Nat.lt_of_not_le
    intro h
    obtain ⟨d, rfl⟩ : ∃ d, k = d + c := ⟨k - c, by omega⟩
    refine hmin d (by omega) ?_
    rw [← hk, Nat.add_mul, hq, ← Nat.add_assoc, Nat.add_mul_mod_self_left]
  have lt : m + k * s < c * s := by
    have : (k + 1) * s ≤ c * s := Nat.mul_le_mul_right s kc
    rw [Nat.add_mul, Nat.one_mul] at this
    omega
  refine ⟨lt, fun t => ⟨fun ⟨h1, h2⟩ => ?_, fun h => ?_⟩⟩
  · have e1 := Nat.div_add_mod t s
    rw [h1] at e1
    have e2 := Nat.div_add_mod (t / s) c
    have hr := Nat.mod_lt (t / s) c0
    generalize t / s = e at e1 e2 hr
    generalize e % c = r at e2 hr
    generalize e / c = z at e2
    have e3 : t = m + r * s + c * s * z := by
      rw [← e1, ← e2, Nat.mul_add, Nat.mul_comm s r, Nat.mul_comm s (c * z), Nat.mul_assoc, Nat.mul_assoc, Nat.mul_comm s z]
      omega
    have h3 : (m + r * s) % p = f := by
      rw [e3, hq, Nat.mul_assoc, Nat.add_mul_mod_self_left] at h2
      exact h2
    have rk : r = k := by
      rcases Nat.lt_trichotomy r k with h | h | h
      · exact absurd h3 (hmin r h)
      · exact h
      · exfalso
        refine cmin (r - k) (by omega) (by omega) ?_
        have := Nat.sub_mod_eq_zero_of_mod_eq (h3.trans hk.symm)
        rw [Nat.add_sub_add_left, ← Nat.sub_mul] at this
        exact this
    rw [e3, rk, Nat.add_mul_mod_self_left, Nat.mod_eq_of_lt lt]
  · have e1 := Nat.div_add_mod t (c * s)
    rw [h] at e1
    generalize t / (c * s) = z at e1
    constructor
    · rw [← e1, Nat.mul_comm c s, Nat.mul_assoc, Nat.add_comm, Nat.add_mul_mod_self_left, Nat.add_mul_mod_self_right, Nat.mod_eq_of_lt hm]
    · rw [← e1, hq, Nat.mul_assoc, Nat.add_comm, Nat.add_mul_mod_self_left, hk]
theorem crt_none {m s p f : Nat} (hp : 0 < p) (h : ∀ k, k < p → (m + k * s) % p ≠ f) : ∀ t, ¬ (t % s = m ∧ t % p = f) := by
  rintro t ⟨h1, h2⟩
  have e1 := Nat.div_add_mod t s
  rw [h1] at e1
  have e2 := Nat.div_add_mod (t / s) p
  have hr := Nat.mod_lt (t / s) hp
  generalize t / s = e at e1 e2 hr
  generalize e % p = r at e2 hr
  generalize e / p = z at e2
  have e3 : t = m + r * s + p * (z * s) := by
    rw [← e1, ← e2, Nat.mul_add, Nat.mul_comm s r, Nat.mul_comm s (p * z), Nat.mul_assoc]
    omega
  refine h r hr ?_
  rw [e3, Nat.add_mul_mod_self_left] at h2
  exact h2
def fwN (P F : Nat → Nat) (t : Nat) : Nat → Nat
  | 0 => 0
  | n + 1 => fwN P F t n + if t % P n = F n then 1 else 0
theorem fwN_le {P F : Nat → Nat} {t : Nat} : ∀ n, fwN P F t n ≤ n := by
  intro n
  induction n with
  | zero => exact Nat.le_refl 0
  | succ n ih => rw [fwN]; split <;> omega
theorem fwN_all {P F : Nat → Nat} {t : Nat} : ∀ n, fwN P F t n = n ↔ ∀ j, j < n → t % P j = F j := by
  intro n
  induction n with
  | zero => exact ⟨fun _ j hj => absurd hj (Nat.not_lt_zero j), fun _ => rfl⟩
  | succ n ih =>
    rw [fwN]
    have := fwN_le (P := P) (F := F) (t := t) n
    constructor
    · intro h j hj
      by_cases c : t % P n = F n
      · rw [if_pos c] at h
        by_cases hjn : j = n
        · rw [hjn]; exact c
        · exact ih.mp (by omega) j (by omega)
      · rw [if_neg c] at h
        omega
    · intro h
      rw [if_pos (h n (by omega)), ih.mpr (fun j hj => h j (by omega))]
/-- the chairs, as numbers -/
def Chs (τ : St) (n : Nat) (P F : Nat → Nat) : Prop := τ 0 49 = n ∧ n ≤ 5 ∧ ∀ i : Nat, i < n → τ 29 i = P i ∧ τ 30 i = F i ∧ 1 ≤ P i ∧ P i ≤ 30 ∧ F i < P i
theorem irm_N {a b : Nat} : irm (a : Int) b = ((a % b : Nat) : Int) := by rw [irm_nn (by omega)]; rfl
theorem m_forward {τ : St} {n t : Nat} {P F : Nat → Nat} (h : Chs τ n P F) : fX12_forwardAt t τ = some (((fwN P F t n : Nat) : Int), τ) := by
  obtain ⟨h1, h2, h3⟩ := h
  apply ok_eq
  unfold fX12_forwardAt
  rw [ko_bnd]
  refine for_ok n (fun i x τ' => τ = τ' ∧ x = (((fwN P F t i : Nat) : Int), (i : Int))) (by omega) ⟨rfl, rfl⟩ ?_ ?_
  · rintro i x τ' hi ⟨rfl, rfl⟩
    obtain ⟨q1, q2, q3, q4, q5⟩ := h3 i hi
    have hf := fwN_le (P := P) (F := F) (t := t) i
    rw [ko_fld, h1, ko_t (by show (i : Int) < n; omega), ko_lod, ko_dvc, ko_lod, q1, q2, irm_N]
    refine ⟨by omega, by omega, by omega, ?_⟩
    by_cases c : t % P i = F i
    · rw [ko_t (by rw [c]), ko_lb, ko_some, ko_jl, w32_nat (by omega), w32_nat (by omega), fwN, if_pos c]
      exact ⟨rfl, rfl⟩
    · rw [ko_f (by omega), ko_some, ko_jl, w32_nat (by omega), fwN, if_neg c]
      exact ⟨rfl, rfl⟩
  · rintro x τ' ⟨rfl, rfl⟩
    rw [ko_fld, h1, ko_f (Int.lt_irrefl _), ko_some, ko_jr, ko_some]
    exact ⟨rfl, rfl⟩
theorem m_search {τ : St} {n : Nat} {P F : Nat → Nat} (h : Chs τ n P F) {r : Int} (hr : (r = -1 ∧ ∀ t : Nat, t < 10000 → ¬ ∀ j, j < n → t % P j = F j) ∨ ∃ m : Nat, m < 10000 ∧ r = m ∧ (∀ j, j < n → m % P j = F j) ∧ ∀ t : Nat, t < m → ¬ ∀ j, j < n → t % P j = F j) :
    Ok (bnx (itr FUEL (fun (x17 : Int) s18 =>
      if 9999 < x17 then (
      some (.inr (.inr (-1)), s18))
      else
      bnd (fX12_forwardAt x17 s18) fun r20 s21 =>
      fld s21 0 49 fun v23 =>
      if r20 = v23 then (
      some (.inr (.inl x17), s21))
      else
      some (.inl (w32 (x17 + 1)), s21)) 0 τ) fun (y25 : Int) s26 =>
      some (y25, s26)) fun r' τ' => r' = r ∧ τ = τ' := by
  rw [ko_bnx]
  refine for_ok 10000 (fun i x τ' => τ = τ' ∧ x = (i : Int) ∧ ∀ t : Nat, t < i → ¬ ∀ j, j < n → t % P j = F j) (by decide) ⟨rfl, rfl, fun t ht => absurd ht (Nat.not_lt_zero t)⟩ ?_ ?_
  · rintro i x τ' hi ⟨rfl, rfl, ht⟩
    rw [ko_f (by omega), ko_bnd, m_forward h, ko_some, ko_fld, h.1]
    by_cases c : ∀ j, j < n → i % P j = F j
    · rw [ko_t (by rw [(fwN_all n).mpr c]), ko_some]
      rw [ko_jr, ko_jl, ko_some]
      refine ⟨?_, rfl⟩
      rcases hr with ⟨_, hn⟩ | ⟨m, m1, rfl, m2, m3⟩
      · exact absurd c (hn i hi)
      · rcases Nat.lt_trichotomy i m with q | q | q
        · exact absurd c (m3 i q)
        · rw [q]
        · exact absurd m2 (ht m q)
    · rw [ko_f (fun q => c ((fwN_all n).mp (by omega))), ko_some, ko_jl]
      refine ⟨rfl, w32_nat (by omega), fun t htt => ?_⟩
      by_cases he : t = i
      · rw [he]; exact c
      · exact ht t (by omega)
  · rintro x τ' ⟨rfl, rfl, ht⟩
    rw [ko_t (by decide), ko_some, ko_jr, ko_jr]
    refine ⟨?_, rfl⟩
    rcases hr with ⟨rfl, _⟩ | ⟨m, m1, rfl, m2, m3⟩
    · rfl
    · exact absurd m2 (ht m m1)
/-- the class's rows are these chairs too -/
def cChs (σ : St) (n : Nat) (P F : Nat → Nat) : Prop := σ 30 2 = n ∧ (∀ i : Nat, i < n → fX6_get 30 31 10 i 0 σ = some (((P i : Nat) : Int), σ)) ∧ ∀ i : Nat, i < n → fX6_get 30 31 10 i 1 σ = some (((F i : Nat) : Int), σ)
theorem chs_of {σ τ : St} (h : Rl σ τ) : ∃ (n : Nat) (P F : Nat → Nat), Chs τ n P F ∧ cChs σ n P F := by
  obtain ⟨⟨w0, w1, w2, w3⟩, w4⟩ := h.c_RChair
  simp only [Nat.reduceAdd] at w0 w1 w4
  obtain ⟨n, hn⟩ : ∃ n : Nat, τ 0 49 = n := ⟨(τ 0 49).toNat, by omega⟩
  rw [hn] at w1 w2 w3 w4
  refine ⟨n, fun i => (τ 29 i).toNat, fun i => (τ 30 i).toNat, ⟨hn, by omega, fun i hi => ?_⟩, w1, fun i hi => ?_, fun i hi => ?_⟩
  · obtain ⟨q1, q2, q3, q4, q5, q6⟩ := w4 i (by omega) (by omega)
    dsimp only
    omega
  · obtain ⟨q1, q2, q3, q4, q5, q6⟩ := w4 i (by omega) (by omega)
    rw [row_get w0 (by omega) (by omega) (by omega), if_pos (by omega), Int.add_zero, q1, Int.toNat_of_nonneg (by omega)]
  · obtain ⟨q1, q2, q3, q4, q5, q6⟩ := w4 i (by omega) (by omega)
    rw [row_get w0 (by omega) (by omega) (by omega), if_pos (by omega), q2, Int.toNat_of_nonneg (by omega)]
theorem c_forward {σ : St} {n t : Nat} {P F : Nat → Nat} (h : cChs σ n P F) (hn : n ≤ 5) (hP : ∀ i : Nat, i < n → 1 ≤ P i) : Ok (itr FUEL (fun (x4 : Int × Int) s5 =>
    bnd (fX6_size 30 31 10 s5) fun r7 s8 =>
    if x4.2 < r7 then (
    bnd (fX6_get 30 31 10 x4.2 0 s8) fun r10 s11 =>
    if 0 < r10 then (
    dvc r10 <|
    bnd (fX6_get 30 31 10 x4.2 1 s11) fun r14 s15 =>
    if irm (t : Int) r10 = r14 then (
    some (.inl (w32 (x4.1 + 1), w32 (x4.2 + 1)), s15))
    else
    some (.inl (x4.1, w32 (x4.2 + 1)), s15))
    else
    some (.inl (x4.1, w32 (x4.2 + 1)), s11))
    else
    (some (.inr x4.1, s8) : Rs ((Int × Int) ⊕ Int))) (0, 0) σ) fun r σ' => r = ((fwN P F t n : Nat) : Int) ∧ σ = σ' := by
  obtain ⟨h1, h2, h3⟩ := h
  refine for_ok n (fun i x σ' => σ = σ' ∧ x = (((fwN P F t i : Nat) : Int), (i : Int))) (by omega) ⟨rfl, rfl⟩ ?_ ?_
  · rintro i x σ' hi ⟨rfl, rfl⟩
    have hf := fwN_le (P := P) (F := F) (t := t) i
    have hp := hP i hi
    rw [ko_bnd, row_size, ko_some, h1, ko_t (by show (i : Int) < n; omega), ko_bnd, h2 i hi, ko_some, ko_t (by omega), ko_dvc, ko_bnd, h3 i hi, ko_some, irm_N]
    refine ⟨by omega, ?_⟩
    by_cases c : t % P i = F i
    · rw [ko_t (by rw [c]), ko_some, ko_jl, w32_nat (by omega), w32_nat (by omega), fwN, if_pos c]
      exact ⟨rfl, rfl⟩
    · rw [ko_f (by omega), ko_some, ko_jl, w32_nat (by omega), fwN, if_neg c]
      exact ⟨rfl, rfl⟩
  · rintro x σ' ⟨rfl, rfl⟩
    rw [ko_bnd, row_size, ko_some, h1, ko_f (Int.lt_irrefl _), ko_some, ko_jr]
    exact ⟨rfl, rfl⟩
theorem c_stride {σ : St} {s p : Nat} (hs : 1 ≤ s) (hs2 : s ≤ 1000000) (hp : 1 ≤ p) (hp2 : p ≤ 30) : Ok (fX4_commonStride s p σ) fun r σ' => σ = σ' ∧ ∃ c : Nat, 0 < c ∧ c ≤ p ∧ r = ((c * s : Nat) : Int) ∧ (c * s) % p = 0 ∧ ∀ c', 0 < c' → c' < c → (c' * s) % p ≠ 0 := by
  unfold fX4_commonStride
  rw [ko_bnd]
  have bd : ∀ k : Nat, k ≤ 30 → k * s ≤ 30000000 := fun k hk => by
    have := Nat.mul_le_mul hk hs2
    omega
  refine for_ok (p - 1) (fun i x σ' => σ = σ' ∧ x = ((((i + 1) * s : Nat) : Int), ((i + 1 : Nat) : Int)) ∧ ∀ c', 0 < c' → c' < i + 1 → (c' * s) % p ≠ 0) (by omega) ⟨rfl, by rw [Nat.zero_add, Nat.one_mul]; rfl, fun c' h1 h2 => by omega⟩ ?_ ?_
  · rintro i x σ' hi ⟨rfl, rfl, hc⟩
    have := bd (i + 1) (by omega)
    rw [ko_t (by show ((i + 1 : Nat) : Int) < p; omega), ko_dvc, irm_N]
    refine ⟨by omega, ?_⟩
    by_cases c : ((i + 1) * s) % p = 0
    · rw [ko_t (by rw [c]; rfl), ko_some, ko_jr, ko_some]
      exact ⟨rfl, i + 1, by omega, by omega, rfl, c, hc⟩
    · rw [ko_f (by omega), ko_lb, ko_some, ko_jl, w32_nat (by omega), w32_sm (by omega)]
      refine ⟨rfl, ?_, fun c' h1 h2 => ?_⟩
      · rw [Nat.add_mul (i + 1) 1 s, Nat.one_mul, Int.natCast_add ((i + 1) * s) s]
      · by_cases he : c' = i + 1
        · rw [he]; exact c
        · exact hc c' h1 (by omega)
  · rintro x σ' ⟨rfl, rfl, hc⟩
    rw [ko_f (by show ¬ ((p - 1 + 1 : Nat) : Int) < p; omega), ko_some, ko_jr, ko_some]
    refine ⟨rfl, p, by omega, Nat.le_refl _, by rw [Nat.sub_add_cancel hp], Nat.mul_mod_right p s, fun c' h1 h2 => hc c' h1 (by omega)⟩
theorem c_all {σ : St} {n : Nat} {P F : Nat → Nat} (h : cChs σ n P F) (hn : n ≤ 5) (hP : ∀ i : Nat, i < n → 1 ≤ P i ∧ P i ≤ 30) : Ok (fX4_allForward σ) fun r σ' => σ = σ' ∧ ((r = -1 ∧ ∀ t : Nat, t < 10000 → ¬ ∀ j, j < n → t % P j = F j) ∨ ∃ m : Nat, m < 10000 ∧ r = m ∧ (∀ j, j < n → m % P j = F j) ∧ ∀ t : Nat, t < m → ¬ ∀ j, j < n → t % P j = F j) := by
  obtain ⟨h1, h2, h3⟩ := h
  unfold fX4_allForward
  rw [ko_bnx]
  refine for_ok n (fun i x σ' => σ = σ' ∧ ∃ m s : Nat, x = ((m : Int), (s : Int), (i : Int)) ∧ m < s ∧ s ≤ 30 ^ i ∧ ∀ t, (∀ j, j < i → t % P j = F j) ↔ t % s = m) (by omega) ⟨rfl, 0, 1, rfl, by decide, by decide, fun t => ⟨fun _ => Nat.mod_one t, fun _ j hj => absurd hj (Nat.not_lt_zero j)⟩⟩ ?_ ?_
  · rintro i x σ' hi ⟨rfl, m, s, rfl, ms, s30, hall⟩
    obtain ⟨p1, p2⟩ := hP i hi
    have hs2 : s ≤ 1000000 := by
      have : 30 ^ i ≤ 30 ^ 4 := Nat.pow_le_pow_right (by decide) (by omega)
      have e : 30 ^ 4 = 810000 := by decide
      omega
    rw [ko_bnd, row_size, ko_some, h1, ko_t (by show (i : Int) < n; omega), ko_bnd, h2 i hi, ko_some, ko_bnd, h3 i hi, ko_some, ko_f (by omega), ko_bnd]
    have bd : ∀ k : Nat, k ≤ 30 → k * s ≤ 30000000 := fun k hk => by
      have := Nat.mul_le_mul hk hs2
      omega
    have after : ∀ k : Nat, k < P i → ((m + k * s) % P i = F i ∨ k = P i - 1) → (∀ k', k' < k → (m + k' * s) % P i ≠ F i) → Ok (dvc ((P i : Nat) : Int) <|
        if irm ((m + k * s : Nat) : Int) ((P i : Nat) : Int) = ((F i : Nat) : Int) then (
        bnd (fX4_commonStride (s : Int) ((P i : Nat) : Int) σ) fun r23 s24 =>
        (some (.inl (((m + k * s : Nat) : Int), r23, w32 ((i : Int) + 1)), s24) : Rs ((Int × Int × Int) ⊕ (Unit ⊕ Int))))
        else
        some (.inr (.inr (-1)), σ)) (Jx (fun x σ' => σ = σ' ∧ ∃ m s : Nat, x = ((m : Int), (s : Int), ((i + 1 : Nat) : Int)) ∧ m < s ∧ s ≤ 30 ^ (i + 1) ∧ ∀ t, (∀ j, j < i + 1 → t % P j = F j) ↔ t % s = m) (Jx (fun (_ : Unit) s => Ok (some ((-1 : Int), s)) fun r σ' => σ = σ' ∧ ((r = -1 ∧ ∀ t : Nat, t < 10000 → ¬ ∀ j, j < n → t % P j = F j) ∨ ∃ m : Nat, m < 10000 ∧ r = m ∧ (∀ j, j < n → m % P j = F j) ∧ ∀ t : Nat, t < m → ¬ ∀ j, j < n → t % P j = F j)) fun r σ' => σ = σ' ∧ ((r = -1 ∧ ∀ t : Nat, t < 10000 → ¬ ∀ j, j < n → t % P j = F j) ∨ ∃ m : Nat, m < 10000 ∧ r = m ∧ (∀ j, j < n → m % P j = F j) ∧ ∀ t : Nat, t < m → ¬ ∀ j, j < n → t % P j = F j))) := by
      intro k hk hor hmin
      rw [ko_dvc, irm_N]
      refine ⟨by omega, ?_⟩
      by_cases c : (m + k * s) % P i = F i
      · rw [ko_t (by rw [c]), ko_bnd]
        refine ok_mono (c_stride (by omega) hs2 p1 p2) ?_
        rintro r σ' ⟨rfl, z, z0, z1, rfl, z2, z3⟩
        obtain ⟨lt, iff⟩ := crt_step (by omega) (by omega) ms c hmin z0 z2 z3
        rw [ko_some, ko_jl, w32_nat (by omega)]
        refine ⟨rfl, m + k * s, z * s, rfl, lt, ?_, fun t => ?_⟩
        · rw [Nat.pow_succ, Nat.mul_comm]
          exact Nat.mul_le_mul s30 (by omega)
        · rw [← iff, ← hall]
          constructor
          · exact fun q => ⟨fun j hj => q j (by omega), q i (by omega)⟩
          · rintro ⟨q1, q2⟩ j hj
            by_cases hji : j = i
            · rw [hji]; exact q2
            · exact q1 j (by omega)
      · rw [ko_f (by omega), ko_some, ko_jr, ko_jr]
        refine ⟨rfl, Or.inl ⟨rfl, fun t _ q => ?_⟩⟩
        refine crt_none (m := m) (s := s) (f := F i) (p := P i) (by omega) (fun k' hk' => ?_) t ⟨(hall t).mp (fun j hj => q j (by omega)), q i hi⟩
        by_cases he : k' < k
        · exact hmin k' he
        · rw [show k' = k by omega]; exact c
    refine for_ok (P i - 1) (fun k x σ' => σ = σ' ∧ x = (((m + k * s : Nat) : Int), ((k + 1 : Nat) : Int)) ∧ ∀ k', k' < k → (m + k' * s) % P i ≠ F i) (by omega) ⟨rfl, by rw [Nat.zero_mul, Nat.add_zero]; rfl, fun k' hk => absurd hk (Nat.not_lt_zero k')⟩ ?_ ?_
    · rintro k x σ' hk ⟨rfl, rfl, hmin⟩
      have := bd k (by omega)
      rw [ko_t (by show ((k + 1 : Nat) : Int) < P i; omega), ko_dvc]
      refine ⟨by omega, ?_⟩
      dsimp only
      rw [irm_N]
      by_cases c : (m + k * s) % P i = F i
      · rw [ko_t (by rw [c]), ko_some, ko_jr]
        exact after k (by omega) (Or.inl c) hmin
      · rw [ko_f (by omega), ko_lb, ko_some, ko_jl, w32_nat (by omega), w32_sm (by omega)]
        refine ⟨rfl, ?_, fun k' hk' => ?_⟩
        · rw [Nat.add_mul k 1 s, Nat.one_mul, ← Nat.add_assoc, Int.natCast_add (m + k * s) s]
        · by_cases he : k' = k
          · rw [he]; exact c
          · exact hmin k' (by omega)
    · rintro x σ' ⟨rfl, rfl, hmin⟩
      rw [ko_f (by show ¬ ((P i - 1 + 1 : Nat) : Int) < P i; omega), ko_some, ko_jr]
      exact after (P i - 1) (by omega) (Or.inr rfl) hmin
  · rintro x σ' ⟨rfl, m, s, rfl, ms, s30, hall⟩
    rw [ko_bnd, row_size, ko_some, h1, ko_f (Int.lt_irrefl _)]
    dsimp only
    by_cases c : (9999 : Int) < m
    · rw [ko_t c, ko_some, ko_jr, ko_jr]
      refine ⟨rfl, Or.inl ⟨rfl, fun t ht q => ?_⟩⟩
      have := (hall t).mp q
      rw [Nat.mod_eq_of_lt (by omega)] at this
      omega
    · rw [ko_f c, ko_some, ko_jr, ko_jr]
      refine ⟨rfl, Or.inr ⟨m, by omega, rfl, (hall m).mpr (Nat.mod_eq_of_lt ms), fun t ht q => ?_⟩⟩
      have := (hall t).mp q
      rw [Nat.mod_eq_of_lt (by omega)] at this
      omega
theorem s_rocks {σ τ : St} (h : Rl σ τ) {p1 : Int} : Sim (fX11_rocks p1 σ) (fX12_rocks p1 τ) := by
  unfold fX12_rocks
  refine sim_t0 h ?_
  clear h
  intro τ h
  refine Sim.of h ?_
  obtain ⟨n, P, F, hc, hx⟩ := chs_of h
  have hP : ∀ i : Nat, i < n → 1 ≤ P i ∧ P i ≤ 30 := fun i hi => ⟨(hc.2.2 i hi).2.2.1, (hc.2.2 i hi).2.2.2.1⟩
  unfold fX11_rocks
  by_cases c0 : p1 = 0
  · rw [if_pos c0, isIn_eq, if_pos (by omega), bnd_some, if_neg (by decide), if_pos c0]
    refine ok2_l (ok_mono (c_all hx hc.2.1 hP) ?_)
    rintro r σ' ⟨rfl, hr⟩
    refine ⟨_, _, rfl, ok_mono (m_search hc hr) ?_⟩
    rintro r' τ' ⟨rfl, rfl⟩
    exact ⟨rfl, Fr.rf, Fm.rf⟩
  · rw [if_neg c0]
    by_cases c1 : p1 = 1
    · rw [if_pos c1, isIn_eq, if_pos (by omega), bnd_some, if_neg (by decide), if_neg c0]
      unfold fX4_mostForward
      rw [bnd_assoc]
      refine ok2_bnd (ok2_for 100 (fun i x σ' y τ' => σ = σ' ∧ τ = τ' ∧ ∃ a : Int, x = (a, (i : Int)) ∧ y = (a, (i : Int))) (by decide) ⟨rfl, rfl, 0, rfl, rfl⟩ ?_ ?_)
      · rintro i x σ' y τ' hi ⟨rfl, rfl, a, rfl, rfl⟩
        dsimp only
        rw [if_pos (by omega), if_neg (by omega), m_forward hc, bnd_some, greater_eq, bnd_some]
        refine ok2_l (ok_mono (c_forward hx hc.2.1 (fun i hi => (hP i hi).1)) ?_)
        rintro r σ' ⟨rfl, rfl⟩
        rw [lb_eq, ok2_some, w32_nat (by omega)]
        exact ⟨rfl, rfl, _, rfl, rfl⟩
      · rintro x σ' y τ' ⟨rfl, rfl, a, rfl, rfl⟩
        dsimp only
        rw [if_neg (by decide), if_pos (by decide), ok2_some]
        show Ok2 (bnd (some (a, σ)) _) _ _
        rw [bnd_some, ok2_some]
        exact ⟨rfl, Fr.rf, Fm.rf⟩
    · rw [if_neg c1, isIn_eq, if_neg (by omega), bnd_some, if_pos rfl, ok2_some]
      exact ⟨rfl, Fr.rf, Fm.rf⟩
