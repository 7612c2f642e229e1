/-! MATCHED: all orders -/
def foN (taken : Nat) : Nat → Nat → Nat → Nat
  | 0, _, _ => 0
  | d + 1, left, one => if taken.testBit one = true then foN taken d left (one + 1) else if left = 0 then one else foN taken d (left - 1) (one + 1)
def puS (n : Nat) : Nat → Nat × Nat
  | 0 => (0, n)
  | i + 1 => ((puS n i).1 ||| 2 ^ foN (puS n i).1 5 ((puS n i).2 % (5 - i)) 0, (puS n i).2 / (5 - i))
def puP (n i : Nat) : Nat := foN (puS n i).1 5 ((puS n i).2 % (5 - i)) 0
theorem pu_bd : ∀ n : Nat, n < 120 → ∀ i : Nat, i < 5 → puP n i < 5 ∧ (puS n i).1 < 32 ∧ (puS n i).2 < 120 := by decide +kernel
theorem c_freeOne {σ : St} {taken left : Nat} (ht : taken < 32) (hl : left < 10) : fX0_freeOne taken left σ = some (((foN taken 5 left 0 : Nat) : Int), σ) := by
  apply ok_eq
  unfold fX0_freeOne
  rw [ko_bnx]
  refine while_ok (fun x t => σ = t ∧ ∃ d l one : Nat, x = ((l : Int), (one : Int)) ∧ one + d = 5 ∧ l < 10 ∧ foN taken d l one = foN taken 5 left 0) (fun x _ => (5 - x.2).toNat) ⟨rfl, 5, left, 0, rfl, rfl, hl, rfl⟩ (by show (5 - (0 : Int)).toNat < _; decide) ?_
  rintro x _ ⟨rfl, d, l, one, rfl, hd, hl2, e⟩
  have wi := (wq4 (i := one) (by omega)).1
  dsimp only
  cases d with
  | zero =>
    rw [ko_f (by omega), ko_some, ko_jr, ko_jr, ← e]
    exact ⟨rfl, rfl⟩
  | succ d =>
    have hmu : (5 - ((one + 1 : Nat) : Int)).toNat < (5 - (one : Int)).toNat := by omega
    rw [ko_t (by omega), bit_nat (by omega) (by omega)]
    rw [foN] at e
    cases b : taken.testBit one with
    | true =>
      rw [b, if_pos rfl] at e
      rw [if_pos (show true = true from rfl), ko_t rfl, ko_some, ko_jl, wi.o]
      exact ⟨⟨rfl, d, l, one + 1, rfl, by omega, hl2, e⟩, hmu⟩
    | false =>
      rw [b, if_neg (show ¬ (false = true) by decide)] at e
      rw [if_neg (show ¬ (false = true) by decide), ko_f (by decide)]
      by_cases z : l = 0
      · rw [if_pos z] at e
        rw [ko_t (by omega), ko_some, ko_jr, ko_jl, ko_some, ← e]
        exact ⟨rfl, rfl⟩
      · rw [if_neg z] at e
        rw [ko_f (by omega), ko_some, ko_jl, wi.o, w32_sm (x := (l : Int) + -1) (by omega), show (l : Int) + -1 = ((l - 1 : Nat) : Int) by omega]
        exact ⟨⟨rfl, d, l - 1, one + 1, rfl, by omega, by omega, e⟩, hmu⟩
theorem c_pairUp {σ : St} {n : Nat} (hn : n < 120) : Ok (fX0_pairUp n σ) fun _ σ' => Fr [156] σ σ' ∧ ∀ i : Nat, i < 5 → σ' 156 i = ((puP n i : Nat) : Int) := by
  unfold fX0_pairUp
  rw [ko_bnd]
  refine for_ok 5 (fun i x t => x = ((((puS n i).1 : Nat) : Int), (((puS n i).2 : Nat) : Int), (i : Int)) ∧ Fr [156] σ t ∧ ∀ j : Nat, j < i → t 156 j = ((puP n j : Nat) : Int)) (by decide) ⟨rfl, Fr.rf, fun j h => absurd h (Nat.not_lt_zero j)⟩ ?_ ?_
  · rintro i x t hi ⟨rfl, ft, hj⟩
    obtain ⟨p1, p2, p3⟩ := pu_bd n hn i hi
    have wi := (wq4 (i := i) (by omega)).1
    have w5 := Hd.m (show w32 (5 - (i : Int)) = ((5 - i : Nat) : Int) by rw [w32_sm (by omega)]; omega)
    have n1 : (puS n (i + 1)).1 = (puS n i).1 ||| 2 ^ puP n i := rfl
    have n2 : (puS n (i + 1)).2 = (puS n i).2 / (5 - i) := rfl
    have n3 : puP n i = foN (puS n i).1 5 ((puS n i).2 % (5 - i)) 0 := rfl
    rw [n1, n2]
    generalize hp : puP n i = p at n1 n3 p1 ⊢
    generalize (puS n i).1 = tk at *
    generalize (puS n i).2 = rs at *
    have rm := Nat.mod_lt rs (show 0 < 5 - i by omega)
    have ir : irm (rs : Int) ((5 - i : Nat) : Int) = ((rs % (5 - i) : Nat) : Int) := by rw [irm_nn (by omega), Int.natCast_emod]
    have iq : idv (rs : Int) ((5 - i : Nat) : Int) = ((rs / (5 - i) : Nat) : Int) := by rw [idv_nn (by omega) (by omega) (by omega), Int.natCast_ediv]
    have p2l : 2 ^ p ≤ 16 := Nat.le_trans (Nat.pow_le_pow_right (by decide) (show p ≤ 4 by omega)) (by decide)
    dsimp only
    rw [ko_t (by omega), w5.o, dvc_eq (by omega), ir, c_freeOne p2 (by omega), bnd_some, ← n3, sto_eq (by omega), lod_eq (by omega)]
    have e0 : up t 156 (i : Int) ((p : Nat) : Int) 156 (i : Int) = ((p : Nat) : Int) := (by (simp only [up_g, Nat.reduceAdd, true_and, and_true, false_and, and_false, Nat.reduceEqDiff, if_false, if_true]) <;> (repeat (first | rw [if_neg (by omega)] | rw [if_pos (by omega)])) <;> (first | assumption | omega))
    rw [e0, ishl_one p (by omega), ior_nat (by omega) (by omega), ko_lb, dvc_eq (by omega), iq, ko_lb, ko_some, ko_jl, wi.o]
    refine ⟨rfl, ft.up (by decide), fun j h => ?_⟩
    by_cases e : j = i
    · subst e
      rw [e0, hp]
    · simp only [up_g, true_and, and_true, false_and, and_false, Nat.reduceEqDiff, if_false, if_true]
      rw [if_neg (by omega)]
      exact hj j (by omega)
  · rintro x t ⟨rfl, ft, hj⟩
    dsimp only
    rw [ko_f (by decide), ko_some, ko_jr, ko_some]
    exact ⟨ft, hj⟩
def LPl : List (List Nat) := [[0, 1, 2, 3, 4], [0, 1, 2, 4, 3], [0, 1, 3, 2, 4], [0, 1, 3, 4, 2], [0, 1, 4, 2, 3], [0, 1, 4, 3, 2], [0, 2, 1, 3, 4], [0, 2, 1, 4, 3], [0, 2, 3, 1, 4], [0, 2, 3, 4, 1], [0, 2, 4, 1, 3], [0, 2, 4, 3, 1], [0, 3, 1, 2, 4], [0, 3, 1, 4, 2], [0, 3, 2, 1, 4], [0, 3, 2, 4, 1], [0, 3, 4, 1, 2], [0, 3, 4, 2, 1], [0, 4, 1, 2, 3], [0, 4, 1, 3, 2], [0, 4, 2, 1, 3], [0, 4, 2, 3, 1], [0, 4, 3, 1, 2], [0, 4, 3, 2, 1], [1, 0, 2, 3, 4], [1, 0, 2, 4, 3], [1, 0, 3, 2, 4], [1, 0, 3, 4, 2], [1, 0, 4, 2, 3], [1, 0, 4, 3, 2], [1, 2, 0, 3, 4], [1, 2, 0, 4, 3], [1, 2, 3, 0, 4], [1, 2, 3, 4, 0], [1, 2, 4, 0, 3], [1, 2, 4, 3, 0], [1, 3, 0, 2, 4], [1, 3, 0, 4, 2], [1, 3, 2, 0, 4], [1, 3, 2, 4, 0], [1, 3, 4, 0, 2], [1, 3, 4, 2, 0], [1, 4, 0, 2, 3], [1, 4, 0, 3, 2], [1, 4, 2, 0, 3], [1, 4, 2, 3, 0], [1, 4, 3, 0, 2], [1, 4, 3, 2, 0], [2, 0, 1, 3, 4], [2, 0, 1, 4, 3], [2, 0, 3, 1, 4], [2, 0, 3, 4, 1], [2, 0, 4, 1, 3], [2, 0, 4, 3, 1], [2, 1, 0, 3, 4], [2, 1, 0, 4, 3], [2, 1, 3, 0, 4], [2, 1, 3, 4, 0], [2, 1, 4, 0, 3], [2, 1, 4, 3, 0], [2, 3, 0, 1, 4], [2, 3, 0, 4, 1], [2, 3, 1, 0, 4], [2, 3, 1, 4, 0], [2, 3, 4, 0, 1], [2, 3, 4, 1, 0], [2, 4, 0, 1, 3], [2, 4, 0, 3, 1], [2, 4, 1, 0, 3], [2, 4, 1, 3, 0], [2, 4, 3, 0, 1], [2, 4, 3, 1, 0], [3, 0, 1, 2, 4], [3, 0, 1, 4, 2], [3, 0, 2, 1, 4], [3, 0, 2, 4, 1], [3, 0, 4, 1, 2], [3, 0, 4, 2, 1], [3, 1, 0, 2, 4], [3, 1, 0, 4, 2], [3, 1, 2, 0, 4], [3, 1, 2, 4, 0], [3, 1, 4, 0, 2], [3, 1, 4, 2, 0], [3, 2, 0, 1, 4], [3, 2, 0, 4, 1], [3, 2, 1, 0, 4], [3, 2, 1, 4, 0], [3, 2, 4, 0, 1], [3, 2, 4, 1, 0], [3, 4, 0, 1, 2], [3, 4, 0, 2, 1], [3, 4, 1, 0, 2], [3, 4, 1, 2, 0], [3, 4, 2, 0, 1], [3, 4, 2, 1, 0], [4, 0, 1, 2, 3], [4, 0, 1, 3, 2], [4, 0, 2, 1, 3], [4, 0, 2, 3, 1], [4, 0, 3, 1, 2], [4, 0, 3, 2, 1], [4, 1, 0, 2, 3], [4, 1, 0, 3, 2], [4, 1, 2, 0, 3], [4, 1, 2, 3, 0], [4, 1, 3, 0, 2], [4, 1, 3, 2, 0], [4, 2, 0, 1, 3], [4, 2, 0, 3, 1], [4, 2, 1, 0, 3], [4, 2, 1, 3, 0], [4, 2, 3, 0, 1], [4, 2, 3, 1, 0], [4, 3, 0, 1, 2], [4, 3, 0, 2, 1], [4, 3, 1, 0, 2], [4, 3, 1, 2, 0], [4, 3, 2, 0, 1], [4, 3, 2, 1, 0]]
