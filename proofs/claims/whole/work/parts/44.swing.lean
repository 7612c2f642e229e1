/-! how many bits are set; SWING -/
def pcN : Nat → Nat → Nat
  | 0, _ => 0
  | f + 1, v => v % 2 + pcN f (v / 2)
theorem pcN_zero : ∀ f, pcN f 0 = 0 := by
  intro f
  induction f with
  | zero => rfl
  | succ f ih => rw [pcN, Nat.zero_div, ih]
theorem pcN_and : ∀ (f v : Nat), v < 2 ^ f → 0 < v → pcN f (v &&& (v - 1)) + 1 = pcN f v ∧ v &&& (v - 1) < v := by
  intro f
  induction f with
  | zero => intro v h1 h2; rw [Nat.pow_zero] at h1; omega
  | succ f ih =>
    intro v h1 h2
    rw [pcN, pcN, Nat.and_div_two]
    have hm : (v &&& (v - 1)) % 2 = 0 := by
      have := Nat.and_mod_two_eq_one (a := v) (b := v - 1)
      omega
    have hd : 2 * ((v &&& (v - 1)) / 2) = v &&& (v - 1) := by omega
    rw [Nat.and_div_two] at hd
    rw [Nat.pow_succ] at h1
    by_cases ho : v % 2 = 1
    · have e : (v - 1) / 2 = v / 2 := by omega
      rw [e, Nat.and_self] at hd ⊢
      omega
    · have e : (v - 1) / 2 = v / 2 - 1 := by omega
      obtain ⟨q1, q2⟩ := ih (v / 2) (by omega) (by omega)
      rw [e] at hd ⊢
      omega
theorem onesOf_eq {v : Nat} {σ : St} (hv : v < 1073741824) : fX12_onesOf v σ = some (((pcN 30 v : Nat) : Int), σ) := by
  apply ok_eq
  unfold fX12_onesOf
  rw [ko_bnd]
  have top : ∀ f v : Nat, pcN f v ≤ f := by
    intro f
    induction f with
    | zero => intro v; exact Nat.le_refl 0
    | succ f ih => intro v; rw [pcN]; have := ih (v / 2); omega
  refine while_ok (fun x σ' => σ = σ' ∧ ∃ n w : Nat, x = ((n : Int), (w : Int)) ∧ w < 1073741824 ∧ n + pcN 30 w = pcN 30 v) (fun x _ => pcN 30 x.2.toNat) ⟨rfl, 0, v, rfl, hv, by omega⟩ (Nat.lt_of_le_of_lt (top 30 _) (by decide)) ?_
  rintro x σ' ⟨rfl, n, w, rfl, hw, hp⟩
  have t := top 30 v
  by_cases h0 : w = 0
  · subst h0
    rw [ko_t (by rfl), ko_some, ko_jr, ko_some]
    rw [pcN_zero] at hp
    exact ⟨by rw [← hp, Nat.add_zero], rfl⟩
  · rw [ko_f (by show ¬ (w : Int) = 0; omega)]
    obtain ⟨q1, q2⟩ := pcN_and 30 w (by omega) (by omega)
    have e1 : w32 ((w : Int) - 1) = ((w - 1 : Nat) : Int) := by rw [w32_sm (by omega)]; omega
    have e2 : iand (w : Int) (w32 ((w : Int) - 1)) = ((w &&& (w - 1) : Nat) : Int) := by rw [e1, iand_nat (by omega) (by omega)]
    have e3 : w32 ((n : Int) + 1) = ((n + 1 : Nat) : Int) := w32_nat (by omega)
    rw [ko_lb, ko_lb, ko_some, ko_jl]
    dsimp only
    rw [e2, e3]
    exact ⟨⟨rfl, n + 1, w &&& (w - 1), rfl, by omega, by omega⟩, by simp only [Int.toNat_natCast]; omega⟩
def cB : Nat → Nat → Nat
  | 0, _ => 0
  | f + 1, v => cB f v + if v.testBit f then 1 else 0
theorem cB_half : ∀ f v, cB (f + 1) v = v % 2 + cB f (v / 2) := by
  intro f
  induction f with
  | zero =>
    intro v
    rw [cB, cB, cB, Nat.testBit_zero]
    by_cases h : v % 2 = 1
    · simp [h]
    · simp [h]; omega
  | succ f ih =>
    intro v
    rw [cB, ih, cB, Nat.testBit_succ]
    omega
theorem pcN_cB : ∀ f v, pcN f v = cB f v := by
  intro f
  induction f with
  | zero => intro v; rfl
  | succ f ih => intro v; rw [pcN, cB_half, ih]
/-- the count of a set that is told by its bits -/
theorem pcN_cP {v n : Nat} {f : Int → Int} {a : Int} (hn : n ≤ 30) (h : ∀ i : Nat, i < 30 → (v.testBit i = true ↔ i < n ∧ f i = a)) : ((pcN 30 v : Nat) : Int) = cP n f a := by
  rw [pcN_cB]
  have key : ∀ k : Nat, k ≤ 30 → ((cB k v : Nat) : Int) = cP (min k n) f a := by
    intro k
    induction k with
    | zero => intro _; rw [Nat.zero_min]; rfl
    | succ k ih =>
      intro hk
      rw [cB, Int.natCast_add, ih (by omega)]
      have hb := h k (by omega)
      by_cases hkn : k < n
      · rw [show min (k + 1) n = min k n + 1 by omega, cP, show min k n = k by omega]
        by_cases hf : f k = a
        · rw [if_pos (hb.mpr ⟨hkn, hf⟩), if_pos hf]; rfl
        · rw [if_neg (fun q => hf (hb.mp q).2), if_neg hf]; rfl
      · rw [show min (k + 1) n = min k n by omega, if_neg (fun q => hkn (hb.mp q).1)]
        exact Int.add_zero _
  rw [key 30 (Nat.le_refl 30), show min 30 n = n by omega]
def bcV (p : Int) : Int :=
  let v1 := w32 (p - iand (iushr p 1) 1431655765)
  let v3 := w32 (iand v1 858993459 + iand (iushr v1 2) 858993459)
  let v5 := iand (w32 (v3 + iushr v3 4)) 252645135
  let v7 := w32 (v5 + iushr v5 8)
  let v9 := w32 (v7 + iushr v7 16)
  iand v9 63
theorem bcV_eq : ∀ s : Nat, s < 256 → bcV s = ((pcN 30 s : Nat) : Int) := by decide +kernel
theorem bitCount_eq {s : Nat} {σ : St} (hs : s < 256) : fJ6_bitCount_0f7a4 s σ = some (((pcN 30 s : Nat) : Int), σ) := by
  rw [← bcV_eq s hs]
  rfl
def hvS (f : Int → Int) (s : Int) : Nat → Int
  | 0 => 0
  | n + 1 => w32 (hvS f s n + if iand (ishr s n) 1 = 1 then f n else - f n)
theorem hvS_rg (f : Int → Int) (s : Int) : ∀ n, rg (hvS f s n) := by
  intro n
  cases n with
  | zero => exact rg_0
  | succ n => exact w32_rg _
theorem c_heavier {σ : St} {n : Nat} {f : Int → Int} {s : Int} (hn : n ≤ 8) (w1 : σ 46 2 = n) (g : ∀ i : Nat, i < n → fX6_get 46 47 8 i 0 σ = some (f i, σ)) : fX4_heavierBy s σ = some (iab (hvS f s n), σ) := by
  apply ok_eq
  unfold fX4_heavierBy
  rw [ko_bnd]
  refine for_ok n (fun i x σ' => σ = σ' ∧ x = (hvS f s i, (i : Int))) (by omega) ⟨rfl, rfl⟩ ?_ ?_
  · rintro i x σ' hi ⟨rfl, rfl⟩
    rw [row_size, ko_bnd, ko_some, w1, ko_t (by show (i : Int) < n; omega), ko_bnd, g i hi, ko_some]
    by_cases c : iand (ishr s i) 1 = 1
    · rw [ko_t c, ko_lb, ko_some, ko_jl, w32_nat (by omega), hvS, if_pos c]
      exact ⟨rfl, rfl⟩
    · rw [ko_f c, ko_lb, ko_some, ko_jl, w32_nat (by omega), hvS, if_neg c, w32_r]
      exact ⟨rfl, rfl⟩
  · rintro x σ' ⟨rfl, rfl⟩
    rw [row_size, ko_bnd, ko_some, w1, ko_f (Int.lt_irrefl _), ko_some, ko_jr, ko_some]
    exact ⟨rfl, rfl⟩
theorem m_heavier {τ : St} {n : Nat} {s : Int} (hn : n ≤ 8) (w1 : τ 0 70 = n) : fX12_heavierBy s τ = some (iab (hvS (τ 45) s n), τ) := by
  apply ok_eq
  unfold fX12_heavierBy
  rw [ko_bnd]
  refine for_ok n (fun i x τ' => τ = τ' ∧ x = (hvS (τ 45) s i, (i : Int))) (by omega) ⟨rfl, rfl⟩ ?_ ?_
  · rintro i x τ' hi ⟨rfl, rfl⟩
    rw [ko_fld, w1, ko_t (by show (i : Int) < n; omega), ko_bnd, has_eq, ko_some]
    by_cases c : iand (ishr s i) 1 = 1
    · rw [if_pos c, ko_f (by decide), ko_lod, ko_lb, ko_some, ko_jl, w32_nat (by omega), hvS, if_pos c]
      exact ⟨by omega, rfl, rfl⟩
    · rw [if_neg c, ko_t rfl, ko_lod, ko_lb, ko_some, ko_jl, w32_nat (by omega), hvS, if_neg c, w32_r]
      exact ⟨by omega, rfl, rfl⟩
  · rintro x τ' ⟨rfl, rfl⟩
    rw [ko_fld, w1, ko_f (Int.lt_irrefl _), ko_some, ko_jr, ko_bnd, apart_eq (hvS_rg _ _ _), ko_some, ko_some]
    exact ⟨rfl, rfl⟩
theorem pc_half : ∀ m : Nat, m < 5 → pcN 30 (2 ^ m - 1) = m := by decide +kernel
theorem s_swings {σ τ : St} (h : Rl σ τ) {p1 : Int} : Sim (fX11_swings p1 σ) (fX12_swings p1 τ) := by
  unfold fX12_swings
  refine sim_t0 h ?_
  clear h
  intro τ h
  refine Sim.of h ?_
  obtain ⟨⟨w0, w1, w2, w3⟩, w4⟩ := h.c_RSwing
  simp only [Nat.reduceAdd] at w0 w1 w4
  obtain ⟨n, hn⟩ : ∃ n : Nat, τ 0 70 = n := ⟨(τ 0 70).toNat, by omega⟩
  rw [hn] at w1 w2 w3 w4
  have g : ∀ i : Nat, i < n → fX6_get 46 47 8 i 0 σ = some (τ 45 i, σ) := by
    intro i hi
    rw [row_get w0 (by omega) (by omega) (by omega), if_pos (by omega), Int.mul_one, Int.add_zero, (w4 i (by omega) (by omega)).1]
  have n8 : n ≤ 8 := by omega
  have cH : ∀ s, fX4_heavierBy s σ = some (iab (hvS (τ 45) s n), σ) := fun s => c_heavier n8 w1 g
  have mH : ∀ s, fX12_heavierBy s τ = some (iab (hvS (τ 45) s n), τ) := fun s => m_heavier n8 hn
  clear g w4 w2 w3 w0
  unfold fX11_swings
  by_cases c1 : 0 ≤ p1 ∧ p1 ≤ 1
  · have e2 : irm (n : Int) 2 = ((n % 2 : Nat) : Int) := by rw [irm_nn (by omega)]; omega
    simp only [isIn_eq, within_eq, bnd_some, if_pos c1, Int.reduceEq, if_false, row_size, w1, fld_eq, hn, e2]
    rw [dvc_eq (by decide), dvc_eq (by decide)]
    by_cases odd : n % 2 = 1
    · rw [odd, if_neg (by decide), if_pos (by rfl), ok2_some]
      exact ⟨rfl, Fr.rf, Fm.rf⟩
    · rw [show n % 2 = 0 by omega, if_pos (by rfl), if_neg (by decide)]
      unfold fX4_fairestSeat
      simp only [row_size, bnd_some, w1]
      rw [bnd_assoc]
      by_cases n0 : n = 0
      · subst n0
        rw [if_pos (by rfl)]
        refine ok2_l (for_ok 0 (fun i x σ' => σ = σ' ∧ x = (0, 1)) (by decide) ⟨rfl, rfl⟩ (fun i _ _ hi => absurd hi (Nat.not_lt_zero i)) ?_)
        rintro x σ' ⟨rfl, rfl⟩
        rw [ishl_one 0 (by decide), ko_f (by decide), ko_some, ko_jr, bnd_some, cH, bnd_some]
        by_cases d : p1 = 1
        · rw [if_pos d, ok2_some]
          exact ⟨rfl, Fr.rf, Fm.rf⟩
        · rw [if_neg d, ok2_some]
          exact ⟨rfl, Fr.rf, Fm.rf⟩
      · rw [if_neg (by omega)]
        have p2 : (2 : Nat) ^ n = 2 * 2 ^ (n - 1) := by rw [← Nat.pow_succ']; congr 1; omega
        have p3 : (2 : Nat) ^ n ≤ 2 ^ 8 := Nat.pow_le_pow_right (by decide) n8
        have p4 : (2 : Nat) ^ (n / 2) ≤ 2 ^ (n - 1) := Nat.pow_le_pow_right (by decide) (by omega)
        have ph := pc_half (n / 2) (by omega)
        rw [ishl_one n (by omega)]
        refine ok2_bnd (ok2_for (2 ^ (n - 1)) (fun i x σ' y τ' => σ = σ' ∧ τ = τ' ∧ ∃ (c : Nat) (b b' : Int), x = (b, ((2 * i + 1 : Nat) : Int)) ∧ y = (b', ((2 * i + 1 : Nat) : Int)) ∧ ((c = 0 ∧ b = 0 ∧ b' = -1) ∨ (0 < c ∧ b = c ∧ b' = c)) ∧ (2 ^ (n / 2) - 1 < 2 * i + 1 → 0 < c)) (by omega) ⟨rfl, rfl, 0, 0, -1, rfl, rfl, Or.inl ⟨rfl, rfl, rfl⟩, ?_⟩ ?_ ?_)
        · intro hc
          have : 2 ≤ 2 ^ (n / 2) := by
            have := Nat.pow_le_pow_right (n := 2) (by decide) (show 1 ≤ n / 2 by omega)
            omega
          omega
        · rintro i x σ' y τ' hi ⟨rfl, rfl, c, b, b', rfl, rfl, hb, hc⟩
          dsimp only
          have e3 : w32 (((2 * i + 1 : Nat) : Int) + 2) = ((2 * (i + 1) + 1 : Nat) : Int) := by rw [w32_sm (by omega)]; omega
          have hpc : pcN 30 (2 * i + 1) ≤ 30 := by
            have top : ∀ f v : Nat, pcN f v ≤ f := by
              intro f
              induction f with
              | zero => intro v; exact Nat.le_refl 0
              | succ f ih => intro v; rw [pcN]; have := ih (v / 2); omega
            exact top 30 _
          have e4 : w32 (2 * ((pcN 30 (2 * i + 1) : Nat) : Int)) = 2 * ((pcN 30 (2 * i + 1) : Nat) : Int) := w32_sm (by omega)
          have lt0 : ((2 * i + 1 : Nat) : Int) < ((2 ^ n : Nat) : Int) := by omega
          rw [if_pos lt0, bitCount_eq (by omega), bnd_some, hn, ishl_one n (by omega), if_pos lt0, onesOf_eq (by omega), bnd_some, hn, e4]
          by_cases q : 2 * ((pcN 30 (2 * i + 1) : Nat) : Int) = n
          · rw [if_pos q, if_pos q]
            rcases hb with ⟨rfl, rfl, rfl⟩ | ⟨c0, rfl, rfl⟩
            · rw [if_pos rfl, if_pos rfl, lb_eq, e3, ok2_some]
              exact ⟨rfl, rfl, 2 * i + 1, _, _, rfl, rfl, Or.inr ⟨by omega, rfl, rfl⟩, fun _ => by omega⟩
            · rw [if_neg (by omega), if_neg (by omega), cH, bnd_some, cH, bnd_some, mH, bnd_some, mH, bnd_some]
              by_cases lt : iab (hvS (τ 45) ((2 * i + 1 : Nat) : Int) n) < iab (hvS (τ 45) (c : Int) n)
              · rw [if_pos lt, if_pos lt, lb_eq, e3, ok2_some]
                exact ⟨rfl, rfl, 2 * i + 1, _, _, rfl, rfl, Or.inr ⟨by omega, rfl, rfl⟩, fun _ => by omega⟩
              · rw [if_neg lt, if_neg lt, lb_eq, e3, ok2_some]
                exact ⟨rfl, rfl, c, _, _, rfl, rfl, Or.inr ⟨c0, rfl, rfl⟩, fun _ => c0⟩
          · rw [if_neg q, if_neg q, lb_eq, e3, ok2_some]
            refine ⟨rfl, rfl, c, b, b', rfl, rfl, hb, fun hl => ?_⟩
            by_cases he : 2 ^ (n / 2) - 1 = 2 * i + 1
            · have ph2 : pcN 30 (2 * i + 1) = n / 2 := by rw [← he]; exact ph
              omega
            · have p5 : (2 : Nat) ^ (n / 2 - 1 + 1) = 2 ^ (n / 2 - 1) * 2 := Nat.pow_succ ..
              rw [Nat.sub_add_cancel (by omega)] at p5
              exact hc (by omega)
        · rintro x σ' y τ' ⟨rfl, rfl, c, b, b', rfl, rfl, hb, hc⟩
          dsimp only
          have lt0 : ¬ ((2 * 2 ^ (n - 1) + 1 : Nat) : Int) < ((2 ^ n : Nat) : Int) := by omega
          rw [if_neg lt0, hn, ishl_one n (by omega), if_neg lt0, ok2_some]
          have c0 := hc (by omega)
          rcases hb with ⟨rfl, rfl, rfl⟩ | ⟨c0, rfl, rfl⟩
          · omega
          · show Ok2 (bnd (some ((c : Int), σ)) _) _ _
            rw [bnd_some, cH, mH, bnd_some, bnd_some]
            by_cases d : p1 = 1
            · rw [if_pos d, if_neg (by omega), ok2_some]
              exact ⟨rfl, Fr.rf, Fm.rf⟩
            · rw [if_neg d, if_pos (by omega), ok2_some]
              exact ⟨rfl, Fr.rf, Fm.rf⟩
  · simp only [isIn_eq, within_eq, bnd_some, if_neg c1, if_true]
    rw [ok2_some]
    exact ⟨rfl, Fr.rf, Fm.rf⟩
