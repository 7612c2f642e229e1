/-! STEPS, HALF -/
def md (x : Int) : Int := x % 1000000007
theorem md_bd (x : Int) : 0 ≤ md x ∧ md x < 1000000007 := ⟨Int.emod_nonneg x (by decide), Int.emod_lt_of_pos x (by decide)⟩
theorem md_sm {x : Int} (h : 0 ≤ x ∧ x < 1000000007) : md x = x := Int.emod_eq_of_lt h.1 h.2
theorem md_l (a b : Int) : md (md a + b) = md (a + b) := Int.emod_add_emod a 1000000007 b
theorem md_r (a b : Int) : md (a + md b) = md (a + b) := by rw [Int.add_comm, md_l, Int.add_comm]
theorem md_sub {x : Int} (h : 1000000007 ≤ x ∧ x < 2000000014) : md x = x - 1000000007 := by
  unfold md
  rw [show x = (x - 1000000007) + 1000000007 by omega, Int.add_emod_right, Int.emod_eq_of_lt (by omega) (by omega)]
  omega
theorem added_eq {a b : Int} {σ : St} (ha : 0 ≤ a ∧ a < 1000000007) (hb : 0 ≤ b ∧ b < 1000000007) : fX12_added a b σ = some (md (a + b), σ) := by
  unfold fX12_added
  have e1 : w32 (1000000007 - b) = 1000000007 - b := w32_sm (by omega)
  rw [e1]
  by_cases h : a < 1000000007 - b
  · rw [if_pos h, w32_sm (by omega), md_sm (by omega)]
  · rw [if_neg h, w32_sm (by omega), md_sub (by omega)]
    congr 2
    omega
theorem lrm_md {a : Int} (ha : 0 ≤ a) : lrm a 1000000007 = md a := Int.tmod_eq_emod_of_nonneg ha
theorem lrm_nn {a b : Int} (ha : 0 ≤ a) : lrm a b = a % b := Int.tmod_eq_emod_of_nonneg ha
theorem w64_sm {x : Int} (h : -9223372036854775808 ≤ x ∧ x ≤ 9223372036854775807) : w64 x = x := w64_id h
theorem l2i_sm {x : Int} (h : -2147483648 ≤ x ∧ x ≤ 2147483647) : l2i x = x := w32_sm h
def stS (F : Int → Int) (q v : Int) : Nat → Int
  | 0 => 0
  | k + 1 => stS F q v k + if ((k + 1 : Nat) : Int) ≤ v ∧ iand (ishr q k) 1 = 1 then F (v - ((k + 1 : Nat) : Int)) else 0
theorem stS_cong {F G : Int → Int} {q v : Int} (h : ∀ u, 0 ≤ u → u < v → F u = G u) : ∀ k, stS F q v k = stS G q v k := by
  intro k
  induction k with
  | zero => rfl
  | succ k ih =>
    rw [stS, stS, ih]
    by_cases c : ((k + 1 : Nat) : Int) ≤ v ∧ iand (ishr q k) 1 = 1
    · rw [if_pos c, if_pos c, h _ (by omega) (by omega)]
    · rw [if_neg c, if_neg c]
theorem stS_bd {F : Int → Int} {q v : Int} (h : ∀ u, 0 ≤ u → u < v → 0 ≤ F u ∧ F u < 1000000007) : ∀ k : Nat, 0 ≤ stS F q v k ∧ stS F q v k ≤ k * 1000000007 := by
  intro k
  induction k with
  | zero => exact ⟨Int.le_refl 0, by simp [stS]⟩
  | succ k ih =>
    rw [stS]
    by_cases c : ((k + 1 : Nat) : Int) ≤ v ∧ iand (ishr q k) 1 = 1
    · rw [if_pos c]
      have := h (v - ((k + 1 : Nat) : Int)) (by omega) (by omega)
      omega
    · rw [if_neg c]
      omega
theorem hasPace_eq {q : Int} {k : Nat} {σ : St} (hk : k < 100) : fX4_hasPace q ((k + 1 : Nat) : Int) σ = some (if iand (ishr q k) 1 = 1 then 1 else 0, σ) := by
  unfold fX4_hasPace
  rw [w32_sm (by omega), show ((k + 1 : Nat) : Int) - 1 = k by omega]
  split <;> rfl
/-- the ways up to each step -/
def stF (F : Int → Int) (q : Int) (n : Nat) : Prop := F 0 = 1 ∧ (∀ v : Nat, 1 ≤ v → v ≤ n → F v = md (stS F q v 5)) ∧ ∀ u : Int, 0 ≤ u → u ≤ n → 0 ≤ F u ∧ F u < 1000000007
theorem c_waysUp {σ : St} {n : Nat} {q : Int} (hn : n ≤ 40) : Ok (fX4_waysUp n q σ) fun r σ' => Fr [163] σ σ' ∧ stF (σ' 163) q n ∧ r = σ' 163 n := by
  unfold fX4_waysUp
  rw [within_eq, if_pos (by omega)]
  simp only [ko_bnd, ko_some, ko_sto, Int.reduceEq, if_false]
  repeat' (first | (with_reducible apply And.intro) | intro _)
  all_goals (try (first | (exfalso; omega) | omega | rfl | exact h))
  refine for_ok n (fun i x σ' => x = ((i + 1 : Nat) : Int) ∧ Fr [163] σ σ' ∧ stF (σ' 163) q i) (by omega) ⟨rfl, (by repeat (first | exact Fr.rf | exact fx | refine Fr.up ?_ (by decide))), rfl, fun v h1 h2 => by omega, fun u h1 h2 => ?_⟩ ?_ ?_
  · rw [show u = 0 by omega]
    simp only [up_g, true_and, and_true, false_and, and_false, Nat.reduceEqDiff, if_false, if_true]
    decide
  · rintro i x σ' hi ⟨rfl, fx, f1, f2, f3⟩
    rw [ko_f (by omega), ko_bnd]
    refine for_ok 5 (fun k x σ'' => σ' = σ'' ∧ x = (stS (σ' 163) q ((i + 1 : Nat) : Int) k, ((k + 1 : Nat) : Int))) (by omega) ⟨rfl, rfl⟩ ?_ ?_
    · rintro k x σ'' hk ⟨rfl, rfl⟩
      have bd := stS_bd (F := σ' 163) (q := q) (v := ((i + 1 : Nat) : Int)) (fun u h1 h2 => f3 u h1 (by omega)) k
      have e1 : w32 (((k + 1 : Nat) : Int) + 1) = ((k + 1 + 1 : Nat) : Int) := w32_nat (by omega)
      rw [ko_f (show ¬ (5 : Int) < ((k + 1 : Nat) : Int) by omega)]
      by_cases c : ((i + 1 : Nat) : Int) < ((k + 1 : Nat) : Int)
      · rw [ko_t c, ko_some, ko_jl, e1]
        refine ⟨rfl, ?_⟩
        rw [stS, if_neg (by omega), Int.add_zero]
      · rw [ko_f c, ko_bnd, hasPace_eq (by omega), ko_some]
        by_cases c2 : iand (ishr q k) 1 = 1
        · have e3 : w32 (((i + 1 : Nat) : Int) - ((k + 1 : Nat) : Int)) = ((i + 1 : Nat) : Int) - ((k + 1 : Nat) : Int) := w32_sm (by omega)
          have b2 := f3 (((i + 1 : Nat) : Int) - ((k + 1 : Nat) : Int)) (by omega) (by omega)
          rw [if_pos c2, ko_f (by decide), ko_lod, ko_lb, ko_some, ko_jl, e1, e3]
          refine ⟨by omega, rfl, ?_⟩
          rw [stS, if_pos ⟨by omega, c2⟩, w64_sm (by omega)]
        · rw [if_neg c2, ko_t rfl, ko_some, ko_jl, e1]
          refine ⟨rfl, ?_⟩
          rw [stS, if_neg (fun q => c2 q.2), Int.add_zero]
    · rintro x σ'' ⟨rfl, rfl⟩
      have bd := stS_bd (F := σ' 163) (q := q) (v := ((i + 1 : Nat) : Int)) (fun u h1 h2 => f3 u h1 (by omega)) 5
      have bm := md_bd (stS (σ' 163) q ((i + 1 : Nat) : Int) 5)
      rw [ko_t (show (5 : Int) < ((5 + 1 : Nat) : Int) by decide), ko_some, ko_jr, ko_dvc, ko_sto, ko_some, ko_jl, lrm_md bd.1, w32_nat (by omega)]
      refine ⟨by decide, by omega, rfl, (by repeat (first | exact Fr.rf | exact fx | refine Fr.up ?_ (by decide))), ?_, fun v v1 v2 => ?_, fun u u0 u1 => ?_⟩
      · simp only [up_g, true_and, and_true, false_and, and_false, Nat.reduceEqDiff, if_false, if_true]
        rw [if_neg (by omega)]
        exact f1
      · have cg : ∀ w : Nat, w ≤ i + 1 → stS (up σ' 163 ((i + 1 : Nat) : Int) (md (stS (σ' 163) q ((i + 1 : Nat) : Int) 5)) 163) q w 5 = stS (σ' 163) q w 5 := by
          intro w hw
          refine stS_cong (fun u u0 u1 => ?_) 5
          simp only [up_g, true_and, and_true, false_and, and_false, Nat.reduceEqDiff, if_false, if_true]
          rw [if_neg (by omega)]
        rw [cg v v2]
        by_cases hv : v = i + 1
        · subst hv
          simp only [up_g, true_and, and_true, false_and, and_false, Nat.reduceEqDiff, if_false, if_true]
        · simp only [up_g, true_and, and_true, false_and, and_false, Nat.reduceEqDiff, if_false, if_true]
          rw [if_neg (by omega)]
          exact f2 v v1 (by omega)
      · simp only [up_g, true_and, and_true, false_and, and_false, Nat.reduceEqDiff, if_false, if_true]
        by_cases hu : u = ((i + 1 : Nat) : Int)
        · rw [if_pos hu]; exact bm
        · rw [if_neg hu]; exact f3 u u0 (by omega)
  · rintro x σ' ⟨rfl, fx, hf⟩
    rw [ko_t (by omega), ko_some, ko_jr]
    have := hf.2.2 n (by omega) (by omega)
    simp only [ko_lod, ko_some]
    exact ⟨by omega, fx, hf, l2i_sm (by omega)⟩
