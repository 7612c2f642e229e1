/-! wishes, feed -/
theorem mk31 : ∀ a b c d e : Fin 5, (2 ^ a.val ||| 2 ^ b.val ||| 2 ^ c.val ||| 2 ^ d.val ||| 2 ^ e.val = 31 ↔ (a ≠ b ∧ a ≠ c ∧ a ≠ d ∧ a ≠ e ∧ b ≠ c ∧ b ≠ d ∧ b ≠ e ∧ c ≠ d ∧ c ≠ e ∧ d ≠ e)) ∧ 0 ||| 2 ^ e.val ||| 2 ^ d.val ||| 2 ^ c.val ||| 2 ^ b.val ||| 2 ^ a.val = 2 ^ a.val ||| 2 ^ b.val ||| 2 ^ c.val ||| 2 ^ d.val ||| 2 ^ e.val := by decide +kernel
theorem or_hit {x y k : Nat} (hk : 5 ≤ k) : x ||| 2 ^ k ||| y ≠ 31 := by
  intro h
  have h1 : (x ||| 2 ^ k ||| y).testBit k = true := by
    rw [Nat.testBit_or, Nat.testBit_or, Nat.testBit_two_pow]
    simp
  rw [h] at h1
  have h2 : Nat.testBit 31 k = false := Nat.testBit_lt_two_pow (Nat.lt_of_lt_of_le (by decide : 31 < 2 ^ 5) (Nat.pow_le_pow_right (by decide) hk))
  rw [h2] at h1
  cases h1
theorem p2_lt {k : Nat} (hk : k < 10) : 2 ^ k < 2 ^ 10 := Nat.pow_lt_pow_of_lt (by decide) hk
theorem mask5 {a b c d e : Nat} (ha : a < 10) (hb : b < 10) (hc : c < 10) (hd : d < 10) (he : e < 10) :
    ior (ior (ior (ior (ishl 1 a) (ishl 1 b)) (ishl 1 c)) (ishl 1 d)) (ishl 1 e) = ((2 ^ a ||| 2 ^ b ||| 2 ^ c ||| 2 ^ d ||| 2 ^ e : Nat) : Int) := by
  have h1 := p2_lt ha
  have h2 := p2_lt hb
  have h3 := p2_lt hc
  have h4 := p2_lt hd
  have h5 := p2_lt he
  have k1 : 2 ^ a ||| 2 ^ b < 2 ^ 10 := Nat.or_lt_two_pow h1 h2
  have k2 : 2 ^ a ||| 2 ^ b ||| 2 ^ c < 2 ^ 10 := Nat.or_lt_two_pow k1 h3
  have k3 : 2 ^ a ||| 2 ^ b ||| 2 ^ c ||| 2 ^ d < 2 ^ 10 := Nat.or_lt_two_pow k2 h4
  rw [ishl_one a (by omega), ishl_one b (by omega), ishl_one c (by omega), ishl_one d (by omega), ishl_one e (by omega), ior_nat (by omega) (by omega), ior_nat (by omega) (by omega), ior_nat (by omega) (by omega), ior_nat (by omega) (by omega)]
theorem mask5r {a b c d e : Nat} (ha : a < 5) (hb : b < 5) (hc : c < 5) (hd : d < 5) (he : e < 5) :
    ior (ior (ior (ior (ior 0 (ishl 1 e)) (ishl 1 d)) (ishl 1 c)) (ishl 1 b)) (ishl 1 a) = ((2 ^ a ||| 2 ^ b ||| 2 ^ c ||| 2 ^ d ||| 2 ^ e : Nat) : Int) := by
  have h1 := p2_lt (k := a) (by omega)
  have h2 := p2_lt (k := b) (by omega)
  have h3 := p2_lt (k := c) (by omega)
  have h4 := p2_lt (k := d) (by omega)
  have h5 := p2_lt (k := e) (by omega)
  have k0 : 0 ||| 2 ^ e < 2 ^ 10 := Nat.or_lt_two_pow (by decide) h5
  have k1 : 0 ||| 2 ^ e ||| 2 ^ d < 2 ^ 10 := Nat.or_lt_two_pow k0 h4
  have k2 : 0 ||| 2 ^ e ||| 2 ^ d ||| 2 ^ c < 2 ^ 10 := Nat.or_lt_two_pow k1 h3
  have k3 : 0 ||| 2 ^ e ||| 2 ^ d ||| 2 ^ c ||| 2 ^ b < 2 ^ 10 := Nat.or_lt_two_pow k2 h2
  rw [ishl_one a (by omega), ishl_one b (by omega), ishl_one c (by omega), ishl_one d (by omega), ishl_one e (by omega), show (0 : Int) = ((0 : Nat) : Int) from rfl, ior_nat (by omega) (by omega), ior_nat (by omega) (by omega), ior_nat (by omega) (by omega), ior_nat (by omega) (by omega), ior_nat (by omega) (by omega)]
  have := (mk31 ⟨a, ha⟩ ⟨b, hb⟩ ⟨c, hc⟩ ⟨d, hd⟩ ⟨e, he⟩).2
  simp only at this
  rw [this]
theorem mask5_iff {a b c d e : Nat} (ha : a < 10) (hb : b < 10) (hc : c < 10) (hd : d < 10) (he : e < 10) :
    ior (ior (ior (ior (ishl 1 a) (ishl 1 b)) (ishl 1 c)) (ishl 1 d)) (ishl 1 e) = 31 ↔ isP a b c d e := by
  rw [mask5 ha hb hc hd he, show (31 : Int) = ((31 : Nat) : Int) from rfl, Int.natCast_inj]
  unfold isP
  constructor
  · intro h
    have q1 : a < 5 := by
      refine Nat.lt_of_not_le fun q => or_hit (x := 0) (y := 2 ^ b ||| 2 ^ c ||| 2 ^ d ||| 2 ^ e) q ?_
      simp only [← h, Nat.zero_or, Nat.or_assoc]
    have q2 : b < 5 := by
      refine Nat.lt_of_not_le fun q => or_hit (x := 2 ^ a) (y := 2 ^ c ||| 2 ^ d ||| 2 ^ e) q ?_
      simp only [← h, Nat.or_assoc]
    have q3 : c < 5 := by
      refine Nat.lt_of_not_le fun q => or_hit (x := 2 ^ a ||| 2 ^ b) (y := 2 ^ d ||| 2 ^ e) q ?_
      rw [← h, Nat.or_assoc (2 ^ a ||| 2 ^ b ||| 2 ^ c)]
    have q4 : d < 5 := by
      refine Nat.lt_of_not_le fun q => or_hit (x := 2 ^ a ||| 2 ^ b ||| 2 ^ c) (y := 2 ^ e) q ?_
      exact h
    have q5 : e < 5 := by
      refine Nat.lt_of_not_le fun q => or_hit (x := 2 ^ a ||| 2 ^ b ||| 2 ^ c ||| 2 ^ d) (y := 0) q ?_
      rw [Nat.or_zero]
      exact h
    have := (mk31 ⟨a, q1⟩ ⟨b, q2⟩ ⟨c, q3⟩ ⟨d, q4⟩ ⟨e, q5⟩).1.mp h
    simp only [ne_eq, Fin.mk.injEq] at this
    omega
  · intro h
    refine (mk31 ⟨a, by omega⟩ ⟨b, by omega⟩ ⟨c, by omega⟩ ⟨d, by omega⟩ ⟨e, by omega⟩).1.mpr ?_
    simp only [ne_eq, Fin.mk.injEq]
    omega
/-- the mask of the lowest digits -/
def mkD (v : Int) : Nat → Int
  | 0 => 0
  | n + 1 => ior (mkD v n) (ishl 1 (v / 10 ^ n % 10))
theorem s_wishes {σ τ : St} (h : Rl σ τ) {p1 p2 p3 : Int} : Sim (fX11_wishes p1 p2 p3 σ) (fX12_wishes p1 p2 p3 τ) := by
  unfold fX12_wishes
  refine sim_t0 h ?_
  clear h
  intro τ h
  obtain ⟨w0, w1, w4⟩ := h.c_RWish
  simp only [Nat.reduceAdd] at w0 w1 w4
  unfold Sim fX11_wishes fX0_change
  by_cases c1 : 0 ≤ p1 ∧ p1 ≤ 1
  · by_cases c2 : 0 ≤ p2 ∧ p2 ≤ 4
    · by_cases c3 : 0 ≤ p3 ∧ p3 ≤ 43210
      · have d1 : idv p3 10000 = p3 / 10000 := idv_nn (by omega) (by omega) (by omega)
        have d2 : irm (idv p3 1000) 10 = p3 / 1000 % 10 := by rw [idv_nn (by omega) (by omega) (by omega), irm_nn (by omega)]
        have d3 : irm (idv p3 100) 10 = p3 / 100 % 10 := by rw [idv_nn (by omega) (by omega) (by omega), irm_nn (by omega)]
        have d4 : irm (idv p3 10) 10 = p3 / 10 % 10 := by rw [idv_nn (by omega) (by omega) (by omega), irm_nn (by omega)]
        have d5 : irm p3 10 = p3 % 10 := irm_nn (by omega)
        have n1 : ((p3 / 10000).toNat : Int) = p3 / 10000 := by omega
        have n2 : ((p3 / 1000 % 10).toNat : Int) = p3 / 1000 % 10 := by omega
        have n3 : ((p3 / 100 % 10).toNat : Int) = p3 / 100 % 10 := by omega
        have n4 : ((p3 / 10 % 10).toNat : Int) = p3 / 10 % 10 := by omega
        have n5 : ((p3 % 10).toNat : Int) = p3 % 10 := by omega
        have hm := mask5_iff (a := (p3 / 10000).toNat) (b := (p3 / 1000 % 10).toNat) (c := (p3 / 100 % 10).toNat) (d := (p3 / 10 % 10).toNat) (e := (p3 % 10).toNat) (by omega) (by omega) (by omega) (by omega) (by omega)
        rw [n1, n2, n3, n4, n5] at hm
        have ei : w32 (w32 (5 * p1) + p2) = 5 * p1 + p2 := by rw [w32_l, w32_sm (by omega)]
        have er : w32 (p3 - 1234) = p3 - 1234 := w32_sm (by omega)
        have hc := row_change (ro := 28) (rc := 29) (rn := 50) (σ := σ) (w := 5) (p := 5 * p1 + p2) (a := p3 / 10000) (b := p3 / 1000 % 10) (c := p3 / 100 % 10) (d := p3 / 10 % 10) (e := p3 % 10) (by decide) w0 (by omega) (by decide) (by omega) (by omega) (by decide)
        simp only [rput, cup, Int.reduceLT, if_true] at hc
        have mk5 : mkD p3 5 = ior (ior (ior (ior (ior 0 (ishl 1 (p3 % 10))) (ishl 1 (p3 / 10 % 10))) (ishl 1 (p3 / 100 % 10))) (ishl 1 (p3 / 1000 % 10))) (ishl 1 (p3 / 10000)) := by
          show ior (ior (ior (ior (ior 0 (ishl 1 (p3 / 10 ^ 0 % 10))) (ishl 1 (p3 / 10 ^ 1 % 10))) (ishl 1 (p3 / 10 ^ 2 % 10))) (ishl 1 (p3 / 10 ^ 3 % 10))) (ishl 1 (p3 / 10 ^ 4 % 10)) = _
          rw [show (10 : Int) ^ 0 = 1 from rfl, show (10 : Int) ^ 1 = 10 from rfl, show (10 : Int) ^ 2 = 100 from rfl, show (10 : Int) ^ 3 = 1000 from rfl, show (10 : Int) ^ 4 = 10000 from rfl, Int.ediv_one, show p3 / 10000 % 10 = p3 / 10000 by omega]
        have dg : ∀ i : Nat, i < 5 → isP (p3 / 10000) (p3 / 1000 % 10) (p3 / 100 % 10) (p3 / 10 % 10) (p3 % 10) → p3 / 10 ^ i % 10 ≤ 4 := by
          intro i hi hP
          obtain ⟨hP, -⟩ := hP
          rcases (show i = 0 ∨ i = 1 ∨ i = 2 ∨ i = 3 ∨ i = 4 by omega) with rfl | rfl | rfl | rfl | rfl
          · rw [show (10 : Int) ^ 0 = 1 from rfl, Int.ediv_one]; omega
          · rw [show (10 : Int) ^ 1 = 10 from rfl]; omega
          · rw [show (10 : Int) ^ 2 = 100 from rfl]; omega
          · rw [show (10 : Int) ^ 3 = 1000 from rfl]; omega
          · rw [show (10 : Int) ^ 4 = 10000 from rfl]; omega
        have loop : ∀ (P : Int → St → Prop), ((¬ isP (p3 / 10000) (p3 / 1000 % 10) (p3 / 100 % 10) (p3 / 10 % 10) (p3 % 10)) → P 0 τ) → (∀ m : Int, (m = 31 ↔ isP (p3 / 10000) (p3 / 1000 % 10) (p3 / 100 % 10) (p3 / 10 % 10) (p3 % 10)) → Ok (if m = 31 then sto τ 23 10 (5 * p1 + p2) (p3 - 1234) fun s24 => some (1, s24) else some (0, τ)) P) → Ok (bnx (itr FUEL (fun (x11 : Int × Int × Int) s12 =>
            if x11.2.2 < 5 then (
            dvc 10 <|
            if 4 < irm x11.2.1 10 then (
            some (.inr (.inr 0), s12))
            else
            dvc 10 <|
            lb (ior x11.1 (ishl 1 (irm x11.2.1 10))) fun v16 =>
            dvc 10 <|
            lb (idv x11.2.1 10) fun v19 =>
            some (.inl (v16, v19, w32 (x11.2.2 + 1)), s12))
            else
            some (.inr (.inl x11.1), s12)) (0, p3, 0) τ) fun (y21 : Int) s22 =>
            if y21 = 31 then (
            sto s22 23 10 (5 * p1 + p2) (w32 (p3 - 1234)) fun s24 =>
            some (1, s24))
            else
            some (0, s22)) P := by
          intro P hn hy
          rw [ko_bnx]
          refine for_ok 5 (fun i x τ' => τ' = τ ∧ x = (mkD p3 i, p3 / 10 ^ i, (i : Int)) ∧ ∀ j : Nat, j < i → p3 / 10 ^ j % 10 ≤ 4) (by omega) ⟨rfl, by rw [show (10 : Int) ^ 0 = 1 from rfl, Int.ediv_one]; rfl, fun j hj => by omega⟩ ?_ ?_
          · rintro i x τ' hi ⟨rfl, rfl, hj⟩
            have q0 : 0 ≤ p3 / 10 ^ i := Int.ediv_nonneg (by omega) (Int.pow_nonneg (by decide))
            have q1 : p3 / 10 ^ i ≤ p3 := Int.ediv_le_self _ (by omega)
            have q2 : irm (p3 / 10 ^ i) 10 = p3 / 10 ^ i % 10 := irm_nn q0
            have q3 : idv (p3 / 10 ^ i) 10 = p3 / 10 ^ (i + 1) := by
              rw [idv_nn q0 (by decide) (by omega), Int.pow_succ, Int.ediv_ediv, if_neg (by have : (0 : Int) ≤ 10 ^ i := Int.pow_nonneg (by decide); omega), Int.sub_zero]
            simp only [ko_t (show (i : Int) < 5 by omega), ko_dvc, ko_if, ko_some, ko_lb, ko_jl, ko_jr, q2, q3, w32_nat (show i < 2147483647 by omega)]
            refine ⟨by decide, fun c => hn fun hP => by have := dg i hi hP; omega, fun c => ⟨by decide, by decide, by trivial, rfl, fun j hj2 => ?_⟩⟩
            by_cases hji : j < i
            · exact hj j hji
            · rw [show j = i by omega]; omega
          · rintro x τ' ⟨rfl, rfl, hj⟩
            have g0 := hj 0 (by decide)
            have g1 := hj 1 (by decide)
            have g2 := hj 2 (by decide)
            have g3 := hj 3 (by decide)
            have g4 := hj 4 (by decide)
            rw [show (10 : Int) ^ 0 = 1 from rfl, Int.ediv_one] at g0
            rw [show (10 : Int) ^ 1 = 10 from rfl] at g1
            rw [show (10 : Int) ^ 2 = 100 from rfl] at g2
            rw [show (10 : Int) ^ 3 = 1000 from rfl] at g3
            rw [show (10 : Int) ^ 4 = 10000 from rfl] at g4
            have m5 := mask5r (a := (p3 / 10000).toNat) (b := (p3 / 1000 % 10).toNat) (c := (p3 / 100 % 10).toNat) (d := (p3 / 10 % 10).toNat) (e := (p3 % 10).toNat) (by omega) (by omega) (by omega) (by omega) (by omega)
            have m6 := mask5 (a := (p3 / 10000).toNat) (b := (p3 / 1000 % 10).toNat) (c := (p3 / 100 % 10).toNat) (d := (p3 / 10 % 10).toNat) (e := (p3 % 10).toNat) (by omega) (by omega) (by omega) (by omega) (by omega)
            rw [n1, n2, n3, n4, n5] at m5 m6
            rw [ko_f (by show ¬ (((5 : Nat) : Int) < 5); decide), ko_some, ko_jr, ko_jl, er]
            exact hy (mkD p3 5) (by rw [mk5, m5, ← m6]; exact hm)
        simp only [d1, d2, d3, d4, d5, ei, hc, within_eq, isIn_eq, ko_bnd, ko_some, ko_if, i01, Classical.not_not, ko_dvc, ko_lb]
        refine ⟨fun c => absurd c1 c, fun _ => ⟨fun c => absurd c2 c, fun _ => ⟨fun c => by omega, fun _ => ⟨fun c => by omega, fun _ => ⟨by decide, by decide, by decide, by decide, by decide, by decide, by decide, by decide, fun cm => ?_, fun cm => ?_⟩⟩⟩⟩⟩
        · refine ⟨fun c => by omega, fun _ => ⟨fun c => absurd c1 c, fun _ => ⟨fun c => absurd c2 c, fun _ => ⟨fun c => absurd c3 c, fun _ => ?_⟩⟩⟩⟩
          have hP := hm.mp cm
          refine loop _ (fun hn => absurd hP hn) (fun m hmm => ?_)
          rw [if_pos (hmm.mpr hP), ko_sto, ko_some]
          refine ⟨by omega, rfl, h.set_RWish (by repeat (first | exact Fr.rf | exact fx | refine Fr.up ?_ (by decide))) (by repeat (first | exact Fm.rf | exact fm | exact fm.mono (by decide) (by decide) | refine Fm.u0 ?_ (by decide) | refine Fm.up ?_ (by decide) (by decide))) ⟨w0, w1, fun w k0 k1 => ?_⟩⟩
          simp only [Nat.reduceAdd]
          by_cases hw : w = 5 * p1 + p2
          · subst hw
            simp only [up_g, true_and, and_true, false_and, and_false, Nat.reduceEqDiff, if_false, if_true]
            (repeat (first | rw [if_neg (by omega)] | rw [if_pos (by omega)]))
            exact ⟨by omega, hP⟩
          · have q := w4 w k0 k1
            simp only [up_g, true_and, and_true, false_and, and_false, Nat.reduceEqDiff, if_false, if_true]
            (repeat (first | rw [if_neg (by omega)] | rw [if_pos (by omega)]))
            exact q
        · refine ⟨fun _ => ⟨fun c => absurd c1 c, fun _ => ⟨fun c => absurd c2 c, fun _ => ⟨fun c => absurd c3 c, fun _ => ?_⟩⟩⟩, fun c => absurd trivial c⟩
          have hP := fun q => cm (hm.mpr q)
          refine loop _ (fun _ => ⟨rfl, h⟩) (fun m hmm => ?_)
          rw [if_neg (fun q => hP (hmm.mp q)), ko_some]
          exact ⟨rfl, h⟩
      · simp only [ko_some, ko_none, ko_if, ko_bnd, ko_bnx, ko_lod, ko_sto, ko_stb, ko_fld, ko_put, ko_lb, ko_dvc, ko_loa, ko_cpy, ko_jl, ko_jr, i01, i10, up_g, if_false, if_true, Int.reduceEq, Nat.reduceEqDiff, Classical.not_not, within_eq, isIn_eq, hasPorch_eq, hasPerson_eq, isPorch_eq, isPerson_eq, not_true_eq_false, not_false_eq_true, true_and, and_true, false_and, and_false, false_imp_iff, true_imp_iff, implies_true]
        repeat' (first | (with_reducible apply And.intro) | intro _)
        all_goals (try (first | (exfalso; omega) | omega | rfl | exact h))
    · simp only [ko_some, ko_none, ko_if, ko_bnd, ko_bnx, ko_lod, ko_sto, ko_stb, ko_fld, ko_put, ko_lb, ko_dvc, ko_loa, ko_cpy, ko_jl, ko_jr, i01, i10, up_g, if_false, if_true, Int.reduceEq, Nat.reduceEqDiff, Classical.not_not, within_eq, isIn_eq, hasPorch_eq, hasPerson_eq, isPorch_eq, isPerson_eq, not_true_eq_false, not_false_eq_true, true_and, and_true, false_and, and_false, false_imp_iff, true_imp_iff, implies_true]
      repeat' (first | (with_reducible apply And.intro) | intro _)
      all_goals (try (first | (exfalso; omega) | omega | rfl | exact h))
  · simp only [ko_some, ko_none, ko_if, ko_bnd, ko_bnx, ko_lod, ko_sto, ko_stb, ko_fld, ko_put, ko_lb, ko_dvc, ko_loa, ko_cpy, ko_jl, ko_jr, i01, i10, up_g, if_false, if_true, Int.reduceEq, Nat.reduceEqDiff, Classical.not_not, within_eq, isIn_eq, hasPorch_eq, hasPerson_eq, isPorch_eq, isPerson_eq, not_true_eq_false, not_false_eq_true, true_and, and_true, false_and, and_false, false_imp_iff, true_imp_iff, implies_true]
    repeat' (first | (with_reducible apply And.intro) | intro _)
    all_goals (try (first | (exfalso; omega) | omega | rfl | exact h))
theorem iand_255 {a : Int} : 0 ≤ iand a 255 ∧ iand a 255 ≤ 255 := by
  have : ∃ n : Nat, n ≤ 255 ∧ iand a 255 = n := by
    refine ⟨(pI a &&& pI 255).toBitVec.toNat, ?_, ?_⟩
    · rw [Int32.toBitVec_and, BitVec.toNat_and]
      exact Nat.and_le_right
    · unfold iand
      apply toI_small rfl
      rw [Int32.toBitVec_and, BitVec.toNat_and]
      exact Nat.lt_of_le_of_lt Nat.and_le_right (by decide)
  omega
theorem b255 (i : Nat) (hi : i < 32) : (pI 255).toBitVec.getLsbD i = decide (i < 8) := by
  revert i
  decide +kernel
theorem byte_255 (a : Int) : iand (i2b a) 255 = iand a 255 := by
  unfold iand i2b
  rw [pI_of]
  congr 1
  apply Int32.toBitVec_inj.mp
  apply BitVec.eq_of_getLsbD_eq
  intro i hi
  rw [Int32.toBitVec_and, Int32.toBitVec_and, BitVec.getLsbD_and, BitVec.getLsbD_and, b255 i hi]
  by_cases h8 : i < 8
  · simp [h8, Int8.toBitVec_toInt32, Int32.toBitVec_toInt8, BitVec.getLsbD_signExtend, BitVec.getElem_signExtend, hi]
  · simp [h8]
theorem feed1 {σ τ : St} {a : Int} (h : RP σ τ) (hl : τ 0 13 ≤ 396) : Ok (fX7_append a σ) fun _ σ' => Fr [1, 2] σ σ' ∧ Ok (fX12_types a τ) fun _ τ' => RP σ' τ' ∧ τ' 0 13 = τ 0 13 + 4 ∧ Fm [8] [13] τ τ' := by
  obtain ⟨⟨f1, f2, f3⟩, f4⟩ := h
  have g1 : w32 (τ 0 13 + 1) = τ 0 13 + 1 := w32_sm (by omega)
  have g2 : w32 (τ 0 13 + 2) = τ 0 13 + 2 := w32_sm (by omega)
  have g3 : w32 (τ 0 13 + 3) = τ 0 13 + 3 := w32_sm (by omega)
  have g4 : w32 (τ 0 13 + 4) = τ 0 13 + 4 := w32_sm (by omega)
  unfold fX7_append fX7_hasRoom
  simp only [f1, g1, g2, g3, g4, ko_some, ko_none, ko_if, ko_bnd, ko_bnx, ko_lod, ko_sto, ko_stb, ko_fld, ko_put, ko_lb, ko_dvc, ko_loa, ko_cpy, ko_jl, ko_jr, i01, i10, up_g, if_false, if_true, Int.reduceEq, Nat.reduceEqDiff, Classical.not_not, within_eq, isIn_eq, hasPorch_eq, hasPerson_eq, isPorch_eq, isPerson_eq, not_true_eq_false, not_false_eq_true, true_and, and_true, false_and, and_false, false_imp_iff, true_imp_iff, implies_true]
  repeat' (first | (with_reducible apply And.intro) | intro _)
  all_goals (try (first | (exfalso; omega) | omega | rfl | exact h))
  · rename_i k hk
    exact (show Fr [1, 2] σ (up (up (up (up (up σ 2 (τ 0 13) (i2b (ishr a 24))) 2 (τ 0 13 + 1) (i2b (ishr a 16))) 2 (τ 0 13 + 2) (i2b (ishr a 8))) 2 (τ 0 13 + 3) (i2b a)) 1 1 (τ 0 13 + 4)) from (by repeat (first | exact Fr.rf | exact fx | refine Fr.up ?_ (by decide)))) k hk
  unfold fX12_types
  rw [ko_bnd]
  refine for_ok 4 (fun i x τ' => x = 24 - 8 * (i : Int) ∧ Fm [8] [13] τ τ' ∧ τ' 0 13 = τ 0 13 + i ∧ (∀ j, 0 ≤ j → j < τ 0 13 → τ' 8 j = τ 8 j) ∧ ∀ j : Nat, j < i → τ' 8 (τ 0 13 + j) = iand (ishr a (24 - 8 * (j : Int))) 255) (by omega) ⟨rfl, Fm.rf, by omega, fun _ _ _ => rfl, fun j hj => by omega⟩ ?_ ?_
  · rintro i x τ' hi ⟨rfl, fm, e1, e2, e3⟩
    rw [ko_f (by omega)]
    simp only [ko_fld, ko_sto, ko_put, ko_some, ko_jl, e1]
    refine ⟨by omega, by rw [w32_sm (by omega)]; omega, (by repeat (first | exact Fm.rf | exact fm | exact fm.mono (by decide) (by decide) | refine Fm.u0 ?_ (by decide) | refine Fm.up ?_ (by decide) (by decide))), ?_, fun j j0 j1 => ?_, fun j hj => ?_⟩
    · simp only [up_g, e1, false_and, Nat.reduceEqDiff, if_false, true_and, if_true]
      rw [w32_sm (by omega)]; omega
    · simp only [up_g, true_and, and_true, false_and, and_false, Nat.reduceEqDiff, if_false, if_true]
      (repeat (first | rw [if_neg (by omega)] | rw [if_pos (by omega)]))
      exact e2 j j0 j1
    · simp only [up_g, true_and, and_true, false_and, and_false, Nat.reduceEqDiff, if_false, if_true]
      by_cases hji : j = i
      · rw [hji, if_pos rfl]
      · rw [if_neg (by omega)]
        exact e3 j (by omega)
  · rintro x τ' ⟨rfl, fm, e1, e2, e3⟩
    rw [ko_t (by decide)]
    simp only [ko_some, ko_jr]
    refine ⟨⟨⟨?_, ?_, ?_⟩, fun j j0 j1 => ?_⟩, by omega, fm⟩
    · simp only [up_g, true_and, and_true, false_and, and_false, Nat.reduceEqDiff, if_false, if_true]
      omega
    · omega
    · omega
    · rw [e1] at j1
      have z0 := e3 0 (by decide)
      have z1 := e3 1 (by decide)
      have z2 := e3 2 (by decide)
      have z3 := e3 3 (by decide)
      simp only [Int.natCast_zero, Int.add_zero, Int.mul_zero, Int.sub_zero, Int.natCast_one, Int.mul_one, Int.reduceSub, Int.cast_ofNat_Int, Int.reduceMul] at z0 z1 z2 z3
      have hs : pI (ishr a 0) = pI a := by
        unfold ishr
        rw [pI_of]
        apply Int32.toBitVec_inj.mp
        rw [Int32.toBitVec_shiftRight, BitVec.sshiftRight', show ((pI 0 &&& 31).toBitVec.smod 32).toNat = 0 from by decide +kernel, BitVec.sshiftRight_zero]
      by_cases hj : j < τ 0 13
      · rw [e2 j j0 hj]
        simp only [up_g, true_and, and_true, false_and, and_false, Nat.reduceEqDiff, if_false, if_true]
        (repeat (first | rw [if_neg (by omega)] | rw [if_pos (by omega)]))
        exact f4 j j0 hj
      · rcases (show j = τ 0 13 ∨ j = τ 0 13 + 1 ∨ j = τ 0 13 + 2 ∨ j = τ 0 13 + 3 by omega) with rfl | rfl | rfl | rfl
        · rw [z0]
          simp only [up_g, true_and, and_true, false_and, and_false, Nat.reduceEqDiff, if_false, if_true]
          (repeat (first | rw [if_neg (by omega)] | rw [if_pos (by omega)]))
          exact ⟨byte_255 _, iand_255⟩
        · rw [z1]
          simp only [up_g, true_and, and_true, false_and, and_false, Nat.reduceEqDiff, if_false, if_true]
          (repeat (first | rw [if_neg (by omega)] | rw [if_pos (by omega)]))
          exact ⟨byte_255 _, iand_255⟩
        · rw [z2]
          simp only [up_g, true_and, and_true, false_and, and_false, Nat.reduceEqDiff, if_false, if_true]
          (repeat (first | rw [if_neg (by omega)] | rw [if_pos (by omega)]))
          exact ⟨byte_255 _, iand_255⟩
        · rw [z3]
          simp only [up_g, true_and, and_true, false_and, and_false, Nat.reduceEqDiff, if_false, if_true]
          (repeat (first | rw [if_neg (by omega)] | rw [if_pos (by omega)]))
          refine ⟨?_, iand_255⟩
          rw [byte_255]
          unfold iand
          rw [hs]
theorem s_feed {σ τ : St} (h : Rl σ τ) {p1 p2 p3 p4 p5 : Int} : Sim (fX11_feed p1 p2 p3 p4 p5 σ) (fX12_feed p1 p2 p3 p4 p5 τ) := by
  unfold fX12_feed
  refine sim_t0 h ?_
  clear h
  intro τ h
  have hP := h.c_RP
  obtain ⟨f1, f2, f3⟩ := hP.1
  have g1 : w32 (τ 0 13 + 20) = τ 0 13 + 20 := w32_sm (by omega)
  unfold Sim fX11_feed fX7_hasRoom fX7_length
  simp only [f1, g1, ko_bnd, ko_fld, ko_if, ko_some]
  refine ⟨fun c => ⟨fun _ => ⟨fun _ => ⟨by trivial, h⟩, fun c2 => by omega⟩, fun c2 => absurd trivial c2⟩, fun c => ⟨fun c2 => by omega, fun _ => ?_⟩⟩
  obtain ⟨_, σ1, q1, x1, _, τ1, r1, y1, z1, m1⟩ := feed1 (a := p1) hP (by omega)
  obtain ⟨_, σ2, q2, x2, _, τ2, r2, y2, z2, m2⟩ := feed1 (a := p2) y1 (by omega)
  obtain ⟨_, σ3, q3, x3, _, τ3, r3, y3, z3, m3⟩ := feed1 (a := p3) y2 (by omega)
  obtain ⟨_, σ4, q4, x4, _, τ4, r4, y4, z4, m4⟩ := feed1 (a := p4) y3 (by omega)
  obtain ⟨_, σ5, q5, x5, _, τ5, r5, y5, z5, m5⟩ := feed1 (a := p5) y4 (by omega)
  refine ok_of_eq q1 (ok_of_eq q2 (ok_of_eq q3 (ok_of_eq q4 (ok_of_eq q5 ⟨fun c2 => by omega, fun _ => ok_of_eq r1 (ok_of_eq r2 (ok_of_eq r3 (ok_of_eq r4 (ok_of_eq r5 ⟨y5.1.1.symm, ?_⟩))))⟩))))
  exact h.set_RP ((((x1.tr x2).tr x3).tr x4).tr x5 |>.mono (by decide)) (((((m1.tr m2).tr m3).tr m4).tr m5).mono (by decide) (by decide)) y5
