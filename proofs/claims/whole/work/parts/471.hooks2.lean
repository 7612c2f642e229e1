/-! HOOKS: what is asked of the hats -/
theorem c_rising {σ : St} {n : Nat} {H : Int → Int} (n9 : n ≤ 9) (hh : ∀ q : Nat, q < n → σ 169 q = H q) : Ok (fX4_longestRising n σ) fun r σ' => Fr [170] σ σ' ∧ ∃ R, isRs R H n ∧ r = mxR R n := by
  unfold fX4_longestRising
  rw [ko_bnd]
  refine for_ok n (fun i x σ' => Fr [170] σ σ' ∧ x = (mxR (σ' 170) i, (i : Int)) ∧ isRs (σ' 170) H i) (by omega) ⟨Fr.rf, rfl, fun k hk => absurd hk (Nat.not_lt_zero k)⟩ ?_ ?_
  · rintro i x σ' hi ⟨fx, rfl, hR⟩
    dsimp only
    rw [ko_t (by omega), ko_t (by omega), ko_sto, ko_bnd]
    refine ⟨by omega, ?_⟩
    refine for_ok i (fun j x σ2 => Fr [170] σ σ2 ∧ x = (j : Int) ∧ (∀ q : Nat, q < i → σ2 170 q = σ' 170 q) ∧ σ2 170 i = rsP (σ' 170) H i j) (by omega) ⟨fx.up (by decide), rfl, fun q hq => ?_, ?_⟩ ?_ ?_
    · rw [up_at, if_neg (by omega)]
    · rw [up_at, if_pos rfl]; rfl
    · rintro j x σ2 hj ⟨fx2, rfl, h1, h2⟩
      have x169 : σ2 169 = σ 169 := fx2 169 (by decide)
      rw [ko_t (by omega), ko_lod, ko_lod, x169, hh j (by omega), hh i hi]
      refine ⟨by omega, by omega, ?_⟩
      by_cases c : H j < H i
      · rw [ko_t c, ko_lod, ko_lod, ko_sto, ko_some, ko_jl, h1 j hj, h2, w32_nat (by omega)]
        refine ⟨by omega, by omega, by omega, fx2.up (by decide), rfl, fun q hq => ?_, ?_⟩
        · rw [up_at, if_neg (by omega)]; exact h1 q hq
        · rw [up_at, if_pos rfl, rsP, if_pos ⟨hj, c⟩]
      · rw [ko_f c, ko_some, ko_jl, w32_nat (by omega)]
        refine ⟨fx2, rfl, h1, ?_⟩
        rw [rsP, if_neg (fun q => c q.2)]
        exact h2
    · rintro x σ2 ⟨fx2, rfl, h1, h2⟩
      rw [ko_f (Int.lt_irrefl _), ko_some, ko_jr, ko_lod, ko_lb, ko_some, ko_jl, w32_nat (by omega)]
      have e : ∀ k : Nat, k < i → rsP (σ2 170) H k k = rsP (σ' 170) H k k := fun k hk => rsP_cong k (Nat.le_refl k) (fun q hq => h1 q (by omega))
      refine ⟨by omega, fx2, ?_, fun k hk => ?_⟩
      · rw [mxR, mxR_cong i (fun q hq => h1 q hq)]
      · by_cases hki : k = i
        · rw [hki, h2]
          exact rsP_cong i (Nat.le_refl i) (fun q hq => (h1 q hq).symm)
        · rw [h1 k (by omega), e k (by omega)]
          exact hR k (by omega)
  · rintro x σ' ⟨fx, rfl, hR⟩
    dsimp only
    rw [ko_f (Int.lt_irrefl _), ko_some, ko_jr, ko_some]
    exact ⟨fx, σ' 170, hR, rfl⟩
theorem c_lesser {σ : St} {n k : Nat} {H : Int → Int} (n9 : n ≤ 9) (hk : k < n) (hh : ∀ q : Nat, q < n → σ 169 q = H q) : fX4_lesserBehind k n σ = some (((lbN H k n : Nat) : Int), σ) := by
  apply ok_eq
  unfold fX4_lesserBehind
  rw [ko_lb, ko_bnd, w32_nat (by omega)]
  refine for_ok (n - (k + 1)) (fun j x σ' => σ = σ' ∧ x = (((lbN H k (k + 1 + j) : Nat) : Int), ((k + 1 + j : Nat) : Int))) (by omega) ⟨rfl, by rw [Nat.add_zero, lbN_low (k + 1) (Nat.le_refl _)]; rfl⟩ ?_ ?_
  · rintro j x σ' hj ⟨rfl, rfl⟩
    have hl := lbN_le (H := H) (k := k) (k + 1 + j)
    dsimp only
    rw [ko_t (by omega), ko_t (by omega), ko_lod, ko_lod, hh _ (by omega), hh k hk]
    refine ⟨by omega, by omega, ?_⟩
    by_cases c : H ((k + 1 + j : Nat) : Int) < H k
    · rw [ko_t c, ko_some, ko_jl, w32_nat (by omega), w32_nat (by omega)]
      refine ⟨rfl, ?_⟩
      rw [show k + 1 + (j + 1) = (k + 1 + j) + 1 by omega, lbN, if_pos ⟨by omega, c⟩]
    · rw [ko_f c, ko_some, ko_jl, w32_nat (by omega)]
      refine ⟨rfl, ?_⟩
      rw [show k + 1 + (j + 1) = (k + 1 + j) + 1 by omega, lbN, if_neg (fun q => c q.2)]
      rfl
  · rintro x σ' ⟨rfl, rfl⟩
    dsimp only
    rw [ko_f (by omega), ko_some, ko_jr, ko_some, show k + 1 + (n - (k + 1)) = n by omega]
    exact ⟨rfl, rfl⟩
theorem c_wrong {σ : St} {n : Nat} {H : Int → Int} (n9 : n ≤ 9) (hh : ∀ q : Nat, q < n → σ 169 q = H q) : fX4_wrongCouples n σ = some (trN H n n, σ) := by
  apply ok_eq
  unfold fX4_wrongCouples
  rw [ko_bnd]
  refine for_ok n (fun i x σ' => σ = σ' ∧ x = (trN H n i, (i : Int))) (by omega) ⟨rfl, rfl⟩ ?_ ?_
  · rintro i x σ' hi ⟨rfl, rfl⟩
    dsimp only
    rw [ko_t (by omega), ko_bnd, c_lesser n9 hi hh, ko_some, ko_lb, ko_some, ko_jl, w32_nat (by omega)]
    exact ⟨rfl, rfl⟩
  · rintro x σ' ⟨rfl, rfl⟩
    dsimp only
    rw [ko_f (Int.lt_irrefl _), ko_some, ko_jr, ko_some]
    exact ⟨rfl, rfl⟩
theorem c_place {σ : St} {n : Nat} {H : Int → Int} (n9 : n ≤ 9) (hh : ∀ q : Nat, q < n → σ 169 q = H q) : fX4_placeAmongAll n σ = some (plN H n n, σ) := by
  apply ok_eq
  unfold fX4_placeAmongAll
  rw [ko_bnd]
  refine for_ok n (fun i x σ' => σ = σ' ∧ x = (plN H n i, (i : Int))) (by omega) ⟨rfl, rfl⟩ ?_ ?_
  · rintro i x σ' hi ⟨rfl, rfl⟩
    dsimp only
    rw [ko_t (by omega), ko_bnd, c_lesser n9 hi hh, ko_some, ko_lb, ko_some, ko_jl, w32_nat (by omega)]
    exact ⟨rfl, rfl⟩
  · rintro x σ' ⟨rfl, rfl⟩
    dsimp only
    rw [ko_f (Int.lt_irrefl _), ko_some, ko_jr, ko_some]
    exact ⟨rfl, rfl⟩
theorem m_row {τ' : St} {τ : St} {n k : Nat} {H : Int → Int} (n9 : n ≤ 9) (hk : k < n) (fm : Fm [28, 54] [] τ τ') (hh : ∀ q : Nat, q < n → τ' 28 q = H q) : Ok (itr FUEL (fun (x12 : Int × Int) s13 =>
    if x12.2 < (n : Int) then (
    bnd (
    if x12.2 < (k : Int) then (
    lod s13 28 9 x12.2 fun v15 =>
    lod s13 28 9 (k : Int) fun v17 =>
    if v15 < v17 then (
    lod s13 54 9 (k : Int) fun v19 =>
    lod s13 54 9 x12.2 fun v21 =>
    bnd (fX12_greater v19 (w32 (v21 + 1)) s13) fun r23 s24 =>
    sto s24 54 9 (k : Int) r23 fun s26 =>
    some ((), s26))
    else
    some ((), s13))
    else
    some ((), s13)) fun (y27 : Unit) s28 =>
    if (k : Int) < x12.2 then (
    lod s28 28 9 x12.2 fun v30 =>
    lod s28 28 9 (k : Int) fun v32 =>
    if v30 < v32 then (
    lb (w32 (x12.1 + 1)) fun v34 =>
    some (.inl (v34, w32 (x12.2 + 1)), s28))
    else
    some (.inl (x12.1, w32 (x12.2 + 1)), s28))
    else
    some (.inl (x12.1, w32 (x12.2 + 1)), s28))
    else
    (some (.inr x12.1, s13) : Rs ((Int × Int) ⊕ Int))) (0, 0) (up τ' 54 (k : Int) 1)) fun y s => Fm [28, 54] [] τ s ∧ y = ((lbN H k n : Nat) : Int) ∧ (∀ q : Nat, q < n → s 28 q = H q) ∧ (∀ q : Nat, q < k → s 54 q = τ' 54 q) ∧ s 54 k = rsP (τ' 54) H k k := by
  refine for_ok n (fun o x s => Fm [28, 54] [] τ s ∧ x = (((lbN H k o : Nat) : Int), (o : Int)) ∧ (∀ q : Nat, q < n → s 28 q = H q) ∧ (∀ q : Nat, q < k → s 54 q = τ' 54 q) ∧ s 54 k = rsP (τ' 54) H k o) (by omega) ⟨fm.up (by decide) (by decide), rfl, fun q hq => ?_, fun q hq => ?_, ?_⟩ ?_ ?_
  · rw [up_ne (by decide)]; exact hh q hq
  · rw [up_at, if_neg (by omega)]
  · rw [up_at, if_pos rfl]; rfl
  · rintro o x s ho ⟨fm, rfl, h0, h1, h2⟩
    have hl := lbN_le (H := H) (k := k) o
    dsimp only
    rw [ko_t (by omega), ko_bnd]
    have tail : ∀ s' : St, Fm [28, 54] [] τ s' → (∀ q : Nat, q < n → s' 28 q = H q) → (∀ q : Nat, q < k → s' 54 q = τ' 54 q) → s' 54 k = rsP (τ' 54) H k (o + 1) → Ok (if (k : Int) < (o : Int) then (
        lod s' 28 9 (o : Int) fun v30 =>
        lod s' 28 9 (k : Int) fun v32 =>
        if v30 < v32 then (
        lb (w32 (((lbN H k o : Nat) : Int) + 1)) fun v34 =>
        some (.inl (v34, w32 ((o : Int) + 1)), s'))
        else
        some (.inl (((lbN H k o : Nat) : Int), w32 ((o : Int) + 1)), s'))
        else
        (some (.inl (((lbN H k o : Nat) : Int), w32 ((o : Int) + 1)), s') : Rs ((Int × Int) ⊕ Int))) (Jx (fun x s => Fm [28, 54] [] τ s ∧ x = (((lbN H k (o + 1) : Nat) : Int), ((o + 1 : Nat) : Int)) ∧ (∀ q : Nat, q < n → s 28 q = H q) ∧ (∀ q : Nat, q < k → s 54 q = τ' 54 q) ∧ s 54 k = rsP (τ' 54) H k (o + 1)) (fun y s => Fm [28, 54] [] τ s ∧ y = ((lbN H k n : Nat) : Int) ∧ (∀ q : Nat, q < n → s 28 q = H q) ∧ (∀ q : Nat, q < k → s 54 q = τ' 54 q) ∧ s 54 k = rsP (τ' 54) H k k)) := by
      intro s' fm' g0 g1 g2
      rw [w32_nat (show o < 2147483647 by omega)]
      by_cases c : (k : Int) < o
      · rw [ko_t c, ko_lod, ko_lod, g0 o (by omega), g0 k hk]
        refine ⟨by omega, by omega, ?_⟩
        by_cases c2 : H o < H k
        · rw [ko_t c2, ko_lb, ko_some, ko_jl, w32_nat (by omega)]
          refine ⟨fm', ?_, g0, g1, g2⟩
          rw [lbN, if_pos ⟨by omega, c2⟩]
        · rw [ko_f c2, ko_some, ko_jl]
          refine ⟨fm', ?_, g0, g1, g2⟩
          rw [lbN, if_neg (fun q => c2 q.2)]
          rfl
      · rw [ko_f c, ko_some, ko_jl]
        refine ⟨fm', ?_, g0, g1, g2⟩
        rw [lbN, if_neg (by omega)]
        rfl
    by_cases c : (o : Int) < k
    · rw [ko_t c, ko_lod, ko_lod, h0 o (by omega), h0 k hk]
      refine ⟨by omega, by omega, ?_⟩
      by_cases c2 : H o < H k
      · rw [ko_t c2, ko_lod, ko_lod, ko_bnd, greater_eq, ko_some, ko_sto, ko_some, h1 o (by omega), h2]
        refine ⟨by omega, by omega, by omega, tail _ (fm.up (by decide) (by decide)) (fun q hq => ?_) (fun q hq => ?_) ?_⟩
        · rw [up_ne (by decide)]; exact h0 q hq
        · rw [up_at, if_neg (by omega)]; exact h1 q hq
        · rw [up_at, if_pos rfl, rsP, if_pos ⟨by omega, c2⟩]
      · rw [ko_f c2, ko_some]
        exact tail s fm h0 h1 (by rw [rsP, if_neg (fun q => c2 q.2)]; exact h2)
    · rw [ko_f c, ko_some]
      exact tail s fm h0 h1 (by rw [rsP, if_neg (by omega)]; exact h2)
  · rintro x s ⟨fm, rfl, h0, h1, h2⟩
    dsimp only
    rw [ko_f (Int.lt_irrefl _), ko_some, ko_jr]
    exact ⟨fm, rfl, h0, h1, by rw [h2]; exact rsP_high n (by omega)⟩
theorem s_hooks {σ τ : St} (h : Rl σ τ) {p1 p2 : Int} (r1 : rg p1) : Sim (fX11_hooks p1 p2 σ) (fX12_hooks p1 p2 τ) := by
  unfold fX12_hooks
  refine sim_t0 h ?_
  clear h
  intro τ h
  refine Sim.of h ?_
  clear h
  unfold fX11_hooks
  refine ok2_l (ok_mono (c_hang r1) ?_)
  rintro r σ' ⟨fx, hr⟩
  unfold rg at r1
  rcases hr with ⟨lt, rfl⟩ | ⟨N, n1, n9, v10, nl, nh, hr⟩
  · rw [if_pos rfl, if_pos lt, ok2_some]
    exact ⟨rfl, fx.mono (by decide), Fm.rf⟩
  · rw [if_neg (show ¬ p1 < 10 by omega), isIn_eq, bnd_some]
    by_cases c2 : 0 ≤ p2 ∧ p2 ≤ 2
    · rw [if_pos c2, if_neg (show ¬ (1 : Int) = 0 by decide)]
      refine ok2_r (ok_mono (m_hats r1.2 n1 n9 v10 nl nh) ?_)
      rintro r2 τ' ⟨fm, hr2⟩
      by_cases good : p1 / 10 ^ N = 1 ∧ mkD p1 N = w32 (ishl 1 N - 1)
      · rw [if_pos good] at hr hr2
        obtain ⟨rfl, hx⟩ := hr
        obtain ⟨rfl, hm⟩ := hr2
        generalize hatF p1 N = H at hx hm
        clear good nl nh v10
        have nn : ¬ (N : Int) = -1 := by omega
        rw [if_neg nn, if_neg nn]
        have body : Ok (itr FUEL (fun (x8 : Int × Int × Int × Int) s9 =>
            if x8.2.2.2 < (N : Int) then (
            sto s9 54 9 x8.2.2.2 1 fun s11 =>
            bnd (itr FUEL (fun (x12 : Int × Int) s13 =>
            if x12.2 < (N : Int) then (
            bnd (
            if x12.2 < x8.2.2.2 then (
            lod s13 28 9 x12.2 fun v15 =>
            lod s13 28 9 x8.2.2.2 fun v17 =>
            if v15 < v17 then (
            lod s13 54 9 x8.2.2.2 fun v19 =>
            lod s13 54 9 x12.2 fun v21 =>
            bnd (fX12_greater v19 (w32 (v21 + 1)) s13) fun r23 s24 =>
            sto s24 54 9 x8.2.2.2 r23 fun s26 =>
            some ((), s26))
            else
            some ((), s13))
            else
            some ((), s13)) fun (y27 : Unit) s28 =>
            if x8.2.2.2 < x12.2 then (
            lod s28 28 9 x12.2 fun v30 =>
            lod s28 28 9 x8.2.2.2 fun v32 =>
            if v30 < v32 then (
            lb (w32 (x12.1 + 1)) fun v34 =>
            some (.inl (v34, w32 (x12.2 + 1)), s28))
            else
            some (.inl (x12.1, w32 (x12.2 + 1)), s28))
            else
            some (.inl (x12.1, w32 (x12.2 + 1)), s28))
            else
            some (.inr x12.1, s13)) (0, 0) s11) fun (y36 : Int) s37 =>
            lod s37 54 9 x8.2.2.2 fun v39 =>
            bnd (fX12_greater x8.1 v39 s37) fun r41 s42 =>
            lb (w32 (x8.2.1 + y36)) fun v44 =>
            lb (w32 (w32 (x8.2.2.1 * w32 ((N : Int) - x8.2.2.2)) + y36)) fun v46 =>
            some (.inl (r41, v44, v46, w32 (x8.2.2.2 + 1)), s42))
            else
            (some (.inr (x8.1, x8.2.1, x8.2.2.1), s9) : Rs ((Int × Int × Int × Int) ⊕ (Int × Int × Int)))) (0, 0, 0, 0) τ') fun y s => Fm [28, 54] [] τ s ∧ ∃ R, isRs R H N ∧ y = (mxR R N, trN H N N, plN H N N) := by
          refine for_ok N (fun k x s => Fm [28, 54] [] τ s ∧ (∀ q : Nat, q < N → s 28 q = H q) ∧ isRs (s 54) H k ∧ x = (mxR (s 54) k, trN H N k, plN H N k, (k : Int))) (by omega) ⟨fm.mono (by decide) (by decide), hm, fun k hk => absurd hk (Nat.not_lt_zero k), rfl⟩ ?_ ?_
          · rintro k x s hk ⟨fm, h0, h1, rfl⟩
            dsimp only
            rw [ko_t (by omega), ko_sto, ko_bnd]
            refine ⟨by omega, ok_mono (m_row n9 hk fm h0) ?_⟩
            rintro y s2 ⟨fm2, rfl, g0, g1, g2⟩
            rw [ko_lod, ko_bnd, greater_eq, ko_some, ko_lb, ko_lb, ko_some, ko_jl, w32_nat (by omega)]
            refine ⟨by omega, fm2, g0, fun q hq => ?_, ?_⟩
            · by_cases hqk : q = k
              · rw [hqk, g2]
                exact rsP_cong k (Nat.le_refl k) (fun z hz => (g1 z hz).symm)
              · rw [g1 q (by omega), h1 q (by omega)]
                exact rsP_cong q (Nat.le_refl q) (fun z hz => (g1 z (by omega)).symm)
            · rw [mxR, trN, plN, mxR_cong k (fun q hq => g1 q hq)]
          · rintro x s ⟨fm, h0, h1, rfl⟩
            dsimp only
            rw [ko_f (Int.lt_irrefl _), ko_some, ko_jr]
            exact ⟨fm, s 54, h1, rfl⟩
        have fin : ∀ {σ2 : St} {v : Int}, Fr wX σ σ2 → (p2 = 0 → ∃ R, isRs R H N ∧ v = mxR R N) → (p2 = 1 → v = trN H N N) → (p2 = 2 → v = plN H N N) → Ok (bnd (itr FUEL (fun (x8 : Int × Int × Int × Int) s9 =>
            if x8.2.2.2 < (N : Int) then (
            sto s9 54 9 x8.2.2.2 1 fun s11 =>
            bnd (itr FUEL (fun (x12 : Int × Int) s13 =>
            if x12.2 < (N : Int) then (
            bnd (
            if x12.2 < x8.2.2.2 then (
            lod s13 28 9 x12.2 fun v15 =>
            lod s13 28 9 x8.2.2.2 fun v17 =>
            if v15 < v17 then (
            lod s13 54 9 x8.2.2.2 fun v19 =>
            lod s13 54 9 x12.2 fun v21 =>
            bnd (fX12_greater v19 (w32 (v21 + 1)) s13) fun r23 s24 =>
            sto s24 54 9 x8.2.2.2 r23 fun s26 =>
            some ((), s26))
            else
            some ((), s13))
            else
            some ((), s13)) fun (y27 : Unit) s28 =>
            if x8.2.2.2 < x12.2 then (
            lod s28 28 9 x12.2 fun v30 =>
            lod s28 28 9 x8.2.2.2 fun v32 =>
            if v30 < v32 then (
            lb (w32 (x12.1 + 1)) fun v34 =>
            some (.inl (v34, w32 (x12.2 + 1)), s28))
            else
            some (.inl (x12.1, w32 (x12.2 + 1)), s28))
            else
            some (.inl (x12.1, w32 (x12.2 + 1)), s28))
            else
            some (.inr x12.1, s13)) (0, 0) s11) fun (y36 : Int) s37 =>
            lod s37 54 9 x8.2.2.2 fun v39 =>
            bnd (fX12_greater x8.1 v39 s37) fun r41 s42 =>
            lb (w32 (x8.2.1 + y36)) fun v44 =>
            lb (w32 (w32 (x8.2.2.1 * w32 ((N : Int) - x8.2.2.2)) + y36)) fun v46 =>
            some (.inl (r41, v44, v46, w32 (x8.2.2.2 + 1)), s42))
            else
            (some (.inr (x8.1, x8.2.1, x8.2.2.1), s9) : Rs ((Int × Int × Int × Int) ⊕ (Int × Int × Int)))) (0, 0, 0, 0) τ') fun (y48 : Int × Int × Int) s49 =>
            if p2 = 0 then (
            some (y48.1, s49))
            else
            if p2 = 1 then (
            some (y48.2.1, s49))
            else
            some (y48.2.2, s49)) fun r' τ2 => r' = v ∧ Fr wX σ σ2 ∧ Fm wM wJ τ τ2 := by
          intro σ2 v fx2 k0 k1 k2
          rw [ko_bnd]
          refine ok_mono body ?_
          rintro y s ⟨fm2, R, hR, rfl⟩
          have fm3 := fm2.mono (C2 := wM) (J2 := wJ) (by decide) (by decide)
          dsimp only
          by_cases d0 : p2 = 0
          · rw [ko_t d0, ko_some]
            obtain ⟨S, hS, rfl⟩ := k0 d0
            exact ⟨mxR_cong N (isRs_one hR hS), fx2, fm3⟩
          · rw [ko_f d0]
            by_cases d1 : p2 = 1
            · rw [ko_t d1, ko_some]
              exact ⟨(k1 d1).symm, fx2, fm3⟩
            · rw [ko_f d1, ko_some]
              exact ⟨(k2 (by omega)).symm, fx2, fm3⟩
        clear body
        by_cases d0 : p2 = 0
        · rw [if_pos d0]
          refine ok2_l (ok_mono (c_rising n9 hx) ?_)
          rintro r σ2 ⟨fx2, R, hR, rfl⟩
          exact ⟨_, _, rfl, fin ((fx.mono (by decide)).tr (fx2.mono (by decide))) (fun _ => ⟨R, hR, rfl⟩) (fun q => by omega) (fun q => by omega)⟩
        · rw [if_neg d0]
          by_cases d1 : p2 = 1
          · rw [if_pos d1, c_wrong n9 hx, bnd_some]
            exact ⟨_, _, rfl, fin (fx.mono (by decide)) (fun q => by omega) (fun _ => rfl) (fun q => by omega)⟩
          · rw [if_neg d1, if_pos (by omega), c_place n9 hx, bnd_some]
            exact ⟨_, _, rfl, fin (fx.mono (by decide)) (fun q => by omega) (fun q => by omega) (fun _ => rfl)⟩
      · rw [if_neg good] at hr hr2
        subst hr
        subst hr2
        rw [if_pos rfl, if_pos rfl, ok2_some]
        exact ⟨rfl, fx.mono (by decide), fm.mono (by decide) (by decide)⟩
    · rw [if_neg c2, if_pos rfl, if_neg (by omega : ¬ p2 = 0), if_neg (by omega : ¬ p2 = 1), if_neg (by omega : ¬ p2 = 2)]
      by_cases rn : r = -1
      · rw [if_pos rn, ok2_some]
        exact ⟨rfl, fx.mono (by decide), Fm.rf⟩
      · rw [if_neg rn, ok2_some]
        exact ⟨rfl, fx.mono (by decide), Fm.rf⟩
