/-! LEVEL (the ditch), TALK -/
theorem ok2_bnx {α β γ δ : Type} {h1 : Rs (α ⊕ γ)} {h2 : Rs (β ⊕ δ)} {k1 : α → St → Rs γ} {k2 : β → St → Rs δ} {P : γ → St → δ → St → Prop} (o : Ok2 h1 h2 fun x σ y τ => match x, y with
    | .inl x, .inl y => Ok2 (k1 x σ) (k2 y τ) P
    | .inr x, .inr y => P x σ y τ
    | .inl x, .inr y => Ok (k1 x σ) fun r σ' => P r σ' y τ
    | .inr x, .inl y => Ok (k2 y τ) fun r τ' => P x σ r τ') : Ok2 (bnx h1 k1) (bnx h2 k2) P := by
  obtain ⟨x, σ, rfl, y, τ, rfl, o⟩ := o
  cases x with
  | inl x => cases y with
    | inl y => exact o
    | inr y =>
      obtain ⟨r, σ', e, p⟩ := o
      exact ⟨r, σ', e, y, τ, rfl, p⟩
  | inr x => cases y with
    | inl y => exact ⟨x, σ, rfl, o⟩
    | inr y => exact ⟨x, σ, rfl, y, τ, rfl, o⟩
theorem Sim.of {h1 h2 : Rs Int} {σ τ : St} (h : Rl σ τ) (o : Ok2 h1 h2 fun r σ' r' τ' => r' = r ∧ Fr wX σ σ' ∧ Fm wM wJ τ τ') : Sim h1 h2 :=
  ok_mono o fun _ _ o => ok_mono o fun _ _ p => ⟨p.1, h.work p.2.1 p.2.2⟩
def mxF (f : Int → Int) (k : Int) : Nat → Int
  | 0 => 0
  | m + 1 => imx (mxF f k m) (f (k + m))
theorem l_ditch {σ τ : St} (h : Rl σ τ) : Ok2 (fX4_ditch σ) (fX12_ditch τ) fun r σ' r' τ' => r' = r ∧ σ' = σ ∧ τ' = τ := by
  obtain ⟨⟨w0, w1, w2, w3⟩, w4⟩ := h.c_RBoard
  simp only [Nat.reduceAdd] at w0 w1 w4
  have g : ∀ i : Nat, (i : Int) < τ 0 62 → fX6_get 36 37 12 i 0 σ = some (τ 39 i, σ) := by
    intro i hi
    rw [row_get w0 (by omega) (by omega) (by omega), if_pos (by omega), Int.mul_one, Int.add_zero, (w4 i (by omega) hi).1]
  obtain ⟨n, hn⟩ : ∃ n : Nat, τ 0 62 = n := ⟨(τ 0 62).toNat, by omega⟩
  rw [hn] at w1 w2 w3 w4 g
  unfold fX4_ditch fX12_ditch
  refine ok2_bnd (ok2_for n (fun i x σ' y τ' => (∃ a : Int, x = (a, (i : Int)) ∧ y = (a, (i : Int))) ∧ σ' = σ ∧ τ' = τ) (by omega) ⟨⟨0, rfl, rfl⟩, rfl, rfl⟩ ?_ ?_)
  · rintro i x σ' y τ' hi ⟨⟨a, rfl, rfl⟩, rfl, rfl⟩
    simp only [row_size, bnd_some, w1, if_pos (show (i : Int) < n by omega), fld_eq, hn]
    refine ok2_l (for_ok (i + 1) (fun j x σ'' => σ' = σ'' ∧ x = (mxF (τ' 39) 0 j, (j : Int))) (by omega) ⟨rfl, rfl⟩ ?_ ?_)
    · rintro j x σ'' hj ⟨rfl, rfl⟩
      simp only [ko_f (show ¬ (i : Int) < j by omega), g j (by omega), bnd_some, ko_lb, ko_some, ko_jl, w32_nat (show j < 2147483647 by omega)]
      refine ⟨by trivial, ?_⟩
      rw [mxF, Int.zero_add]
    · rintro x σ'' ⟨rfl, rfl⟩
      rw [ko_t (by show (i : Int) < ((i + 1 : Nat) : Int); omega), ko_some, ko_jr]
      refine ok2_l (for_ok (n - i) (fun j x σ'' => σ' = σ'' ∧ x = (mxF (τ' 39) i j, (i : Int) + j)) (by omega) ⟨rfl, by rw [Int.natCast_zero, Int.add_zero]; rfl⟩ ?_ ?_)
      · rintro j x σ'' hj ⟨rfl, rfl⟩
        have := g (i + j) (by omega)
        rw [Int.natCast_add] at this
        simp only [row_size, bnd_some, w1, ko_t (show (i : Int) + j < n by omega), this, ko_lb, ko_some, ko_jl]
        refine ⟨by trivial, ?_⟩
        rw [mxF, w32_sm (by omega)]
        simp only [Prod.mk.injEq]
        exact ⟨trivial, by omega⟩
      · rintro x σ'' ⟨rfl, rfl⟩
        simp only [row_size, bnd_some, w1, ko_f (show ¬ (i : Int) + ((n - i : Nat) : Int) < n by omega), ko_some, ko_jr, g i (by omega), lb_eq]
        refine ok2_r (for_ok n (fun j x τ'' => τ' = τ'' ∧ x = (mxF (τ' 39) 0 (min j (i + 1)), mxF (τ' 39) i (j - i), (j : Int))) (by omega) ⟨rfl, by rw [Nat.zero_min, Nat.zero_sub]; rfl⟩ ?_ ?_)
        · rintro j x τ'' hj ⟨rfl, rfl⟩
          simp only [ko_some, ko_none, ko_if, ko_bnd, ko_bnx, ko_lod, ko_sto, ko_stb, ko_fld, ko_put, ko_lb, ko_dvc, ko_loa, ko_cpy, ko_jl, ko_jr, i01, i10, up_g, if_false, if_true, Int.reduceEq, Nat.reduceEqDiff, Classical.not_not, within_eq, isIn_eq, hasPorch_eq, hasPerson_eq, isPorch_eq, isPerson_eq, not_true_eq_false, not_false_eq_true, true_and, and_true, false_and, and_false, false_imp_iff, true_imp_iff, implies_true, hn, greater_eq, w32_nat (show j < 2147483647 by omega)]
          repeat' (first | (with_reducible apply And.intro) | intro _)
          all_goals (try (first | (exfalso; omega) | omega | rfl | exact h))
          · rename_i c1 c2 c3
            rw [show min (j + 1) (i + 1) = min j (i + 1) by omega, show j + 1 - i = (j - i) + 1 by omega, mxF, show (i : Int) + ((j - i : Nat) : Int) = j by omega]
          · rename_i c1 c2 c3
            rw [show min (j + 1) (i + 1) = (min j (i + 1)) + 1 by omega, show j + 1 - i = j - i by omega, mxF, show (0 : Int) + ((min j (i + 1) : Nat) : Int) = j by omega]
          · rename_i c1 c2 c3
            rw [show min (j + 1) (i + 1) = (min j (i + 1)) + 1 by omega, show j + 1 - i = (j - i) + 1 by omega, mxF, mxF, show (0 : Int) + ((min j (i + 1) : Nat) : Int) = j by omega, show (i : Int) + ((j - i : Nat) : Int) = j by omega]
        · rintro x τ'' ⟨rfl, rfl⟩
          simp only [ko_fld, hn, ko_f (show ¬ (n : Int) < n by omega), ko_some, ko_jr, lesser_eq, bnd_some, lod_eq (show (0 : Int) ≤ i ∧ (i : Int) < (12 : Nat) by omega), lb_eq, ok2_some]
          refine ⟨⟨_, by rw [w32_nat (by omega)], ?_⟩, trivial, trivial⟩
          rw [w32_nat (by omega), show min n (i + 1) = i + 1 by omega, w32_ls, w32_r, show a + imn (mxF (τ' 39) 0 (i + 1)) (mxF (τ' 39) i (n - i)) - τ' 39 i = a + (imn (mxF (τ' 39) 0 (i + 1)) (mxF (τ' 39) i (n - i)) - τ' 39 i) by omega]
  · rintro x σ' y τ' ⟨⟨a, rfl, rfl⟩, rfl, rfl⟩
    simp only [row_size, bnd_some, w1, if_neg (show ¬ (n : Int) < n by omega), fld_eq, hn, ok2_some]
    trivial
theorem s_level {σ τ : St} (h : Rl σ τ) {p1 : Int} : Sim (fX11_level p1 σ) (fX12_level p1 τ) := by
  unfold fX12_level
  refine sim_t0 h ?_
  clear h
  intro τ h
  refine Sim.of h ?_
  unfold fX11_level
  by_cases c0 : p1 = 0
  · rw [if_pos c0, if_pos c0]
    exact ok2_bnd (ok2_mono (l_shovels h) (by rintro x σ' y τ' ⟨rfl, rfl, rfl⟩; exact ok2_some.mpr ⟨rfl, Fr.rf, Fm.rf⟩))
  · rw [if_neg c0, if_neg c0]
    by_cases c1 : p1 = 1
    · rw [if_pos c1, if_pos c1]
      exact ok2_bnd (ok2_mono (l_ditch h) (by rintro x σ' y τ' ⟨rfl, rfl, rfl⟩; exact ok2_some.mpr ⟨rfl, Fr.rf, Fm.rf⟩))
    · rw [if_neg c1, if_neg c1]
      exact ok2_some.mpr ⟨rfl, Fr.rf, Fm.rf⟩
def dp1 (v d : Int) : Int := if v = 1 then w32 (d + 1) else d
def dp2 (v d : Int) : Int := if v = 2 ∧ 0 < d then w32 (d - 1) else d
def dpt (f : Int → Int) : Nat → Int × Int
  | 0 => (0, 0)
  | n + 1 => (dp2 (f n) (dp1 (f n) (dpt f n).1), imx (dpt f n).2 (dp2 (f n) (dp1 (f n) (dpt f n).1)))
theorem l_deep {σ τ : St} (h : Rl σ τ) : Ok (fX4_deepest σ) fun r σ' => σ = σ' ∧ Ok (fX12_talkGoes 0 τ) fun r' τ' => r' = r ∧ τ = τ' := by
  obtain ⟨⟨w0, w1, w2, w3⟩, w4⟩ := h.c_RTalk
  simp only [Nat.reduceAdd] at w0 w1 w4
  have g : ∀ i : Nat, (i : Int) < τ 0 64 → fX6_get 38 39 24 i 0 σ = some (τ 40 i, σ) := by
    intro i hi
    rw [row_get w0 (by omega) (by omega) (by omega), if_pos (by omega), Int.mul_one, Int.add_zero, (w4 i (by omega) hi).1]
  obtain ⟨n, hn⟩ : ∃ n : Nat, τ 0 64 = n := ⟨(τ 0 64).toNat, by omega⟩
  rw [hn] at w1 w2 w3 w4 g
  unfold fX4_deepest
  rw [ko_bnd]
  refine for_ok n (fun i x σ' => σ = σ' ∧ x = ((dpt (τ 40) i).1, (dpt (τ 40) i).2, (i : Int))) (by omega) ⟨rfl, rfl⟩ ?_ ?_
  · rintro i x σ' hi ⟨rfl, rfl⟩
    simp only [row_size, bnd_some, w1, ko_t (show (i : Int) < n by omega), g i (by omega), ko_bnd, ko_lb, ko_some, ko_jl, ko_if, w32_nat (show i < 2147483647 by omega), dpt, dp1, dp2, Prod.mk.injEq]
    generalize (dpt (τ 40) i).1 = d
    generalize (dpt (τ 40) i).2 = m
    generalize τ 40 i = v
    have : ∀ a : Int, a + -1 = a - 1 := fun a => by omega
    simp only [this]
    clear g w4 w0 w1 w2 w3 hn h this
    repeat' (first | (with_reducible apply And.intro) | intro _)
    all_goals (first | trivial | (exfalso; omega) | (simp_all; done) | (simp_all; omega) | (simp_all; rw [if_neg (by omega)]))
  · rintro x σ' ⟨rfl, rfl⟩
    simp only [row_size, bnd_some, w1, ko_f (show ¬ (n : Int) < n by omega), ko_some, ko_jr]
    refine ⟨trivial, ?_⟩
    unfold fX12_talkGoes
    rw [ko_bnx]
    refine for_ok n (fun i x τ' => τ = τ' ∧ x = ((dpt (τ 40) i).1, (dpt (τ 40) i).2, (i : Int))) (by omega) ⟨rfl, rfl⟩ ?_ ?_
    · rintro i x τ' hi ⟨rfl, rfl⟩
      simp only [fld_eq, hn, ko_t (show (i : Int) < n by omega), lod_eq (show (0 : Int) ≤ i ∧ (i : Int) < (24 : Nat) by omega), ko_bnd, ko_bnx, ko_lb, ko_some, ko_jl, ko_if, w32_nat (show i < 2147483647 by omega), greater_eq, dpt, dp1, dp2, Prod.mk.injEq]
      generalize (dpt (τ 40) i).1 = d
      generalize (dpt (τ 40) i).2 = m
      generalize τ 40 i = v
      clear g w4 w0 w1 w2 w3 hn h
      repeat' (first | (with_reducible apply And.intro) | intro _)
      all_goals (first | trivial | (exfalso; omega) | (simp_all; done) | (simp_all; omega) | (simp_all; rw [if_neg (by omega)]))
    · rintro x τ' ⟨rfl, rfl⟩
      simp only [fld_eq, hn, ko_f (show ¬ (n : Int) < n by omega), if_true, ko_some, ko_jr]
      trivial
theorem l_first {σ τ : St} (h : Rl σ τ) : Ok2 (fX4_firstUnbegun σ) (fX12_talkGoes 1 τ) fun r σ' r' τ' => r' = r ∧ σ = σ' ∧ τ = τ' := by
  obtain ⟨⟨w0, w1, w2, w3⟩, w4⟩ := h.c_RTalk
  simp only [Nat.reduceAdd] at w0 w1 w4
  have g : ∀ i : Nat, (i : Int) < τ 0 64 → fX6_get 38 39 24 i 0 σ = some (τ 40 i, σ) := by
    intro i hi
    rw [row_get w0 (by omega) (by omega) (by omega), if_pos (by omega), Int.mul_one, Int.add_zero, (w4 i (by omega) hi).1]
  obtain ⟨n, hn⟩ : ∃ n : Nat, τ 0 64 = n := ⟨(τ 0 64).toNat, by omega⟩
  rw [hn] at w1 w2 w3 w4 g
  unfold fX4_firstUnbegun fX12_talkGoes
  refine ok2_bnx (ok2_for n (fun i x σ' y τ' => (∃ (d : Nat) (m : Int), d ≤ i ∧ x = ((d : Int), (i : Int)) ∧ y = ((d : Int), m, (i : Int))) ∧ σ = σ' ∧ τ = τ') (by omega) ⟨⟨0, 0, by omega, rfl, rfl⟩, rfl, rfl⟩ ?_ ?_)
  · rintro i x σ' y τ' hi ⟨⟨d, m, hd, rfl, rfl⟩, rfl, rfl⟩
    have v0 := (w4 i (by omega) (by omega)).2
    simp only [row_size, bnd_some, w1, if_pos (show (i : Int) < n by omega), g i (by omega), fld_eq, hn, lod_eq (show (0 : Int) ≤ i ∧ (i : Int) < (24 : Nat) by omega), w32_nat (show i < 2147483647 by omega), lb_eq, greater_eq]
    rcases (show τ 40 i = 0 ∨ τ 40 i = 1 ∨ τ 40 i = 2 by omega) with v | v | v
    · simp only [v, Int.reduceEq, if_false, bnx_inl, bnd_some, ok2_some]
      exact ⟨⟨d, _, by omega, rfl, rfl⟩, by trivial, by trivial⟩
    · simp only [v, Int.reduceEq, if_false, if_true, bnx_inl, bnd_some, ok2_some]
      exact ⟨⟨d + 1, _, by omega, by rw [w32_nat (by omega)], by rw [w32_nat (by omega)]⟩, by trivial, by trivial⟩
    · by_cases d0 : (d : Int) = 0
      · simp only [v, d0, Int.reduceEq, if_false, if_true, bnx_inr, bnd_some, ok2_some]
        trivial
      · simp only [v, d0, Int.reduceEq, if_false, if_true, bnx_inl, bnd_some, ok2_some, if_pos (show (0 : Int) < d by omega)]
        refine ⟨⟨d - 1, imx m (w32 ((d : Int) - 1)), by omega, ?_, ?_⟩, by trivial, by trivial⟩
        · rw [w32_sm (by omega), show (d : Int) + -1 = ((d - 1 : Nat) : Int) by omega]
        · rw [w32_sm (by omega), show (d : Int) - 1 = ((d - 1 : Nat) : Int) by omega]
  · rintro x σ' y τ' ⟨⟨d, m, hd, rfl, rfl⟩, rfl, rfl⟩
    simp only [row_size, bnd_some, w1, if_neg (show ¬ (n : Int) < n by omega), fld_eq, hn, ok2_some, Int.reduceEq, if_false]
    trivial
def catL : List Int := [1, 1, 2, 5, 14, 42, 132, 429, 1430, 4862, 16796, 58786, 208012, 742900, 2674440, 9694845]
def cat (n : Nat) : Int := catL.getD n 0
theorem cat_next : ∀ i : Nat, i < 15 → ldv (w64 (w64 (cat i * 2) * w32 (w32 (2 * i) + 1))) (w32 (i + 2)) = cat (i + 1) := by decide +kernel
def catS (n : Nat) : Nat → Int
  | 0 => if n = 0 then 1 else 0
  | j + 1 => w32 (catS n j + w32 (cat j * cat (n - 1 - j)))
theorem cat_sum : ∀ n : Nat, n < 16 → catS n n = cat n := by decide +kernel
theorem cat_l2i : ∀ n : Nat, n < 16 → l2i (cat n) = cat n := by decide +kernel
theorem l_ways {σ : St} {n : Nat} (hn : n ≤ 15) : fX4_waysOfMatters n σ = some (cat n, σ) := by
  apply ok_eq
  unfold fX4_waysOfMatters
  rw [ko_bnd]
  refine for_ok n (fun i x σ' => σ = σ' ∧ x = (cat i, (i : Int))) (by omega) ⟨rfl, rfl⟩ ?_ ?_
  · rintro i x σ' hi ⟨rfl, rfl⟩
    have := cat_next i (by omega)
    simp only [ko_t (show (i : Int) < n by omega), ko_dvc, ko_lb, ko_some, ko_jl, w32_nat (show i < 2147483647 by omega), this]
    refine ⟨?_, by trivial, by trivial⟩
    rw [w32_sm (by omega)]; omega
  · rintro x σ' ⟨rfl, rfl⟩
    simp only [ko_f (show ¬ (n : Int) < n by omega), ko_some, ko_jr, cat_l2i n (by omega)]
    trivial
theorem s_talks {σ τ : St} (h : Rl σ τ) {p1 : Int} (r1 : rg p1) : Sim (fX11_talks p1 σ) (fX12_talks p1 τ) := by
  unfold fX12_talks
  refine sim_t0 h ?_
  clear h
  intro τ h
  refine Sim.of h ?_
  unfold fX11_talks
  by_cases c0 : p1 = 0
  · subst c0
    obtain ⟨r, σ', e, rfl, r', τ', e', rfl, rfl⟩ := l_deep h
    simp only [isIn_eq, bnd_some, Int.reduceEq, Int.reduceLE, and_self, if_true, if_false, e, e', ok2_some]
    exact ⟨by trivial, Fr.rf, Fm.rf⟩
  by_cases c1 : p1 = 1
  · subst c1
    simp only [isIn_eq, bnd_some, Int.reduceEq, Int.reduceLE, and_self, if_true, if_false]
    exact ok2_bnd (ok2_mono (l_first h) (by rintro x σ' y τ' ⟨rfl, rfl, rfl⟩; exact ok2_some.mpr ⟨rfl, Fr.rf, Fm.rf⟩))
  by_cases c2 : 10 ≤ p1 ∧ p1 ≤ 25
  · obtain ⟨m, hm⟩ : ∃ m : Nat, p1 - 10 = m := ⟨(p1 - 10).toNat, by omega⟩
    have e1 : w32 (p1 - 10) = m := by rw [w32_sm (by unfold rg at r1; omega), hm]
    simp only [isIn_eq, within_eq, bnd_some, if_neg c0, if_neg c1, if_pos c2, if_neg (show ¬ (0 ≤ p1 ∧ p1 ≤ 1) by omega), if_true, Int.reduceEq, if_false, e1, l_ways (show m ≤ 15 by omega)]
    refine ⟨_, _, rfl, ?_⟩
    show Ok (bnd _ _) _
    rw [ko_bnd]
    refine for_ok (m + 1) (fun i x τ' => x = (i : Int) ∧ Fm wM wJ τ τ' ∧ ∀ j : Nat, j < i → τ' 41 j = cat j) (by omega) ⟨rfl, Fm.rf, fun j hj => by omega⟩ ?_ ?_
    · rintro i x τ' hi ⟨rfl, fm, hc⟩
      rw [ko_f (by omega), ko_bnd]
      have key : ∀ τ'', Fm wM wJ τ τ'' → (∀ j : Nat, j < i → τ'' 41 j = cat j) → τ'' 41 i = (if i = 0 then 1 else 0) → Ok (bnd (itr FUEL (fun (x15 : Int) s16 =>
          if x15 < (i : Int) then (
          lod s16 41 16 (i : Int) fun v18 =>
          lod s16 41 16 x15 fun v20 =>
          lod s16 41 16 (w32 (w32 ((i : Int) - 1) - x15)) fun v22 =>
          sto s16 41 16 (i : Int) (w32 (v18 + w32 (v20 * v22))) fun s24 =>
          some (.inl (w32 (x15 + 1)), s24))
          else
          some (.inr (), s16)) 0 τ'') fun (y25 : Unit) s26 => (some (.inl (w32 ((i : Int) + 1)), s26) : Rs (Int ⊕ Unit))) (Jx (fun x τ' => x = ((i + 1 : Nat) : Int) ∧ Fm wM wJ τ τ' ∧ ∀ j : Nat, j < i + 1 → τ' 41 j = cat j) (fun y τ' => Ok (lod τ' 41 16 m fun v31 => some (v31, τ')) fun y τ' => y = cat m ∧ Fr wX σ σ ∧ Fm wM wJ τ τ')) := by
        intro τ'' fm2 h1 h2
        rw [ko_bnd]
        refine for_ok i (fun k x τ' => x = (k : Int) ∧ Fm wM wJ τ τ' ∧ (∀ j : Nat, j < i → τ' 41 j = cat j) ∧ τ' 41 i = catS i k) (by omega) ⟨rfl, fm2, h1, h2⟩ ?_ ?_
        · rintro k x τ3 hk ⟨rfl, fm3, h3, h4⟩
          have e2 : w32 (w32 ((i : Int) - 1) - k) = ((i - 1 - k : Nat) : Int) := by rw [w32_ls, w32_sm (by omega)]; omega
          simp only [ko_t (show (k : Int) < i by omega), ko_lod, ko_sto, ko_some, ko_jl, e2, h3 k (by omega), h3 (i - 1 - k) (by omega), h4, w32_nat (show k < 2147483647 by omega)]
          refine ⟨by omega, by omega, by omega, by omega, by trivial, fm3.up (by decide) (by decide), fun j hj => ?_, ?_⟩
          · simp only [up_g, true_and, and_true, false_and, and_false, Nat.reduceEqDiff, if_false, if_true]
            (repeat (first | rw [if_neg (by omega)] | rw [if_pos (by omega)]))
            exact h3 j hj
          · simp only [up_g, true_and, and_true, false_and, and_false, Nat.reduceEqDiff, if_false, if_true]
            rfl
        · rintro x τ3 ⟨rfl, fm3, h3, h4⟩
          simp only [ko_f (show ¬ (i : Int) < i by omega), ko_some, ko_jr, ko_jl, w32_nat (show i < 2147483647 by omega)]
          refine ⟨by trivial, fm3, fun j hj => ?_⟩
          by_cases hji : j = i
          · rw [hji, h4, cat_sum i (by omega)]
          · exact h3 j (by omega)
      by_cases hi0 : i = 0
      · rw [ko_t (by omega), ko_some, ko_sto]
        refine ⟨by omega, key _ (fm.up (by decide) (by decide)) (fun j hj => ?_) ?_⟩
        · omega
        · simp only [up_g, true_and, and_true, false_and, and_false, Nat.reduceEqDiff, if_false, if_true]
          rw [if_pos hi0]
      · rw [ko_f (by omega), ko_some, ko_sto]
        refine ⟨by omega, key _ (fm.up (by decide) (by decide)) (fun j hj => ?_) ?_⟩
        · simp only [up_g, true_and, and_true, false_and, and_false, Nat.reduceEqDiff, if_false, if_true]
          (repeat (first | rw [if_neg (by omega)] | rw [if_pos (by omega)]))
          exact hc j hj
        · simp only [up_g, true_and, and_true, false_and, and_false, Nat.reduceEqDiff, if_false, if_true]
          rw [if_neg hi0]
    · rintro x τ' ⟨rfl, fm, hc⟩
      rw [ko_t (by omega), ko_some, ko_jr]
      simp only [ko_lod, ko_some, hc m (by omega)]
      exact ⟨by omega, by trivial, Fr.rf, fm⟩
  · simp only [isIn_eq, within_eq, bnd_some, if_neg c0, if_neg c1, if_neg c2, if_neg (show ¬ (0 ≤ p1 ∧ p1 ≤ 1) by omega), if_true, ok2_some]
    exact ⟨by trivial, Fr.rf, Fm.rf⟩
