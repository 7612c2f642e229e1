/-! STORM: sets -/
theorem sub_half {p s : Nat} (h : p &&& s = p) : p / 2 &&& s / 2 = p / 2 ∧ p % 2 ≤ s % 2 ∧ p ≤ s := by
  refine ⟨by rw [← Nat.and_div_two, h], ?_, ?_⟩
  · have a := congrArg (fun x => x.testBit 0) h
    simp only [Nat.testBit_and, Nat.testBit_zero] at a
    by_cases c : p % 2 = 1
    · by_cases d : s % 2 = 1
      · omega
      · simp [c, d] at a
    · omega
  · rw [← h]
    exact Nat.and_le_right
theorem sub_bit : ∀ {s p j : Nat}, p &&& s = p → (s - p).testBit j = (s.testBit j && !p.testBit j) := by
  intro s
  induction s using Nat.strongRecOn with
  | ind s ih =>
    intro p j h
    obtain ⟨h1, h2, h3⟩ := sub_half h
    cases j with
    | zero =>
      rw [Nat.testBit_zero, Nat.testBit_zero, Nat.testBit_zero]
      by_cases c : p % 2 = 1
      · rw [decide_eq_false (show ¬ (s - p) % 2 = 1 by omega), decide_eq_true c]
        simp
      · by_cases d : s % 2 = 1
        · rw [decide_eq_true (show (s - p) % 2 = 1 by omega), decide_eq_true d, decide_eq_false c]
          rfl
        · rw [decide_eq_false (show ¬ (s - p) % 2 = 1 by omega), decide_eq_false d]
          rfl
    | succ j =>
      rw [Nat.testBit_succ, Nat.testBit_succ, Nat.testBit_succ, show (s - p) / 2 = s / 2 - p / 2 by omega]
      by_cases z : s = 0
      · subst z
        have : p = 0 := by omega
        subst this
        simp
      · exact ih (s / 2) (by omega) h1
theorem sub_next : ∀ {s p q : Nat}, p &&& s = p → q &&& s = q → q < p → q ≤ (p - 1) &&& s := by
  intro s
  induction s using Nat.strongRecOn with
  | ind s ih =>
    intro p q hp hq hlt
    obtain ⟨p1, p2, p3⟩ := sub_half hp
    obtain ⟨q1, q2, q3⟩ := sub_half hq
    have e : ((p - 1) &&& s) / 2 = (p - 1) / 2 &&& s / 2 := Nat.and_div_two
    have hz : 0 < s := by omega
    have e2 : ((p - 1) &&& s) % 2 = if (p - 1) % 2 = 1 ∧ s % 2 = 1 then 1 else 0 := by
      have a : ((p - 1) &&& s).testBit 0 = ((p - 1).testBit 0 && s.testBit 0) := Nat.testBit_and ..
      simp only [Nat.testBit_zero] at a
      by_cases c : (p - 1) % 2 = 1
      · by_cases d : s % 2 = 1
        · rw [if_pos ⟨c, d⟩]
          rw [decide_eq_true c, decide_eq_true d] at a
          exact of_decide_eq_true a
        · rw [if_neg fun x => d x.2]
          rw [decide_eq_true c, decide_eq_false d] at a
          have := of_decide_eq_false a
          omega
      · rw [if_neg fun x => c x.1]
        rw [decide_eq_false c] at a
        have := of_decide_eq_false a
        omega
    by_cases c : p % 2 = 1
    · have : (p - 1) / 2 = p / 2 := by omega
      rw [this, p1] at e
      omega
    · have hp0 : (p - 1) / 2 = p / 2 - 1 := by omega
      have k := ih (s / 2) (by omega) p1 q1 (by omega)
      rw [hp0] at e
      by_cases d : s % 2 = 1
      · rw [if_pos ⟨by omega, d⟩] at e2
        omega
      · rw [if_neg fun x => d x.2] at e2
        omega
theorem sub_prev {s p : Nat} (h : 0 < p) : ((p - 1) &&& s) &&& s = (p - 1) &&& s ∧ (p - 1) &&& s < p := by
  refine ⟨by rw [Nat.and_assoc, Nat.and_self], ?_⟩
  have : (p - 1) &&& s ≤ p - 1 := Nat.and_le_left
  omega
theorem sub_iff {p s : Nat} : p &&& s = p ↔ ∀ j, p.testBit j = true → s.testBit j = true := by
  constructor
  · intro h j hj
    rw [← h, Nat.testBit_and] at hj
    exact (Bool.and_eq_true_iff.mp hj).2
  · intro h
    apply Nat.eq_of_testBit_eq
    intro j
    rw [Nat.testBit_and]
    cases c : p.testBit j with
    | false => rfl
    | true => rw [h j c]; rfl
/-- how many come with a set -/
def sS (w : Int → Int) : Nat → Nat → Int
  | 0, _ => 0
  | m + 1, S => sS w m S + if S.testBit m = true then w m else 0
theorem sS_cong {w : Int → Int} : ∀ {m S T : Nat}, (∀ j, j < m → S.testBit j = T.testBit j) → sS w m S = sS w m T := by
  intro m
  induction m with
  | zero => intro S T _; rfl
  | succ m ih =>
    intro S T h
    rw [sS, sS, ih fun j hj => h j (by omega), h m (by omega)]
theorem sS_bd {w : Int → Int} : ∀ {m S : Nat}, (∀ k : Nat, k < m → 1 ≤ w k ∧ w k ≤ 9) → 0 ≤ sS w m S ∧ sS w m S ≤ 9 * m := by
  intro m
  induction m with
  | zero => intro S _; exact ⟨Int.le_refl 0, Int.le_refl 0⟩
  | succ m ih =>
    intro S h
    have a := ih (S := S) fun k hk => h k (by omega)
    have b := h m (by omega)
    rw [sS]
    split <;> omega
theorem sS_sub {w : Int → Int} : ∀ {m S p : Nat}, p &&& S = p → sS w m (S - p) = sS w m S - sS w m p := by
  intro m
  induction m with
  | zero => intro S p _; rfl
  | succ m ih =>
    intro S p h
    rw [sS, sS, sS, ih h, sub_bit h]
    cases c : p.testBit m with
    | false =>
      cases d : S.testBit m with
      | false => simp
      | true => simp; omega
    | true =>
      rw [sub_iff.mp h m c]
      simp
      omega
theorem sS_zero {w : Int → Int} : ∀ {m : Nat}, sS w m 0 = 0 := by
  intro m
  induction m with
  | zero => rfl
  | succ m ih => rw [sS, ih, Nat.zero_testBit]; rfl
/-- a set below 2 ^ (i + 1) with its own bit i -/
theorem top_bit {i S : Nat} (h : 2 ^ i ≤ S) (h2 : S < 2 ^ (i + 1)) : S.testBit i = true ∧ ∀ j, j < i → (S - 2 ^ i).testBit j = S.testBit j := by
  have p2 : 2 ^ (i + 1) = 2 * 2 ^ i := by rw [Nat.pow_succ, Nat.mul_comm]
  have e : S = 2 ^ i + (S - 2 ^ i) := by omega
  refine ⟨?_, fun j hj => ?_⟩
  · rw [e, Nat.testBit_two_pow_add_eq, Nat.testBit_lt_two_pow (by omega)]
    rfl
  · conv => rhs; rw [e]
    rw [Nat.testBit_two_pow_add_gt hj]
theorem sS_top {w : Int → Int} {i S : Nat} (h : 2 ^ i ≤ S) (h2 : S < 2 ^ (i + 1)) : sS w (i + 1) S = sS w i (S - 2 ^ i) + w i := by
  obtain ⟨a, b⟩ := top_bit h h2
  rw [sS, a, if_pos rfl, sS_cong fun j hj => (b j hj).symm]
theorem sS_lt {w : Int → Int} {S : Nat} : ∀ {M m : Nat}, S < 2 ^ m → m ≤ M → sS w M S = sS w m S := by
  intro M
  induction M with
  | zero => intro m _ hm; rw [show m = 0 by omega]
  | succ M ih =>
    intro m h hm
    by_cases e : m = M + 1
    · rw [e]
    · rw [sS, ih h (by omega), Nat.testBit_lt_two_pow (Nat.lt_of_lt_of_le h (Nat.pow_le_pow_right (by decide) (by omega)))]
      simp
