/-! STORM: sums -/
def smI (f : Nat → Int) : Nat → Int
  | 0 => 0
  | n + 1 => smI f n + f n
theorem smI_cong {f g : Nat → Int} : ∀ {n : Nat}, (∀ i, i < n → f i = g i) → smI f n = smI g n := by
  intro n
  induction n with
  | zero => intro _; rfl
  | succ n ih =>
    intro h
    rw [smI, smI, ih fun i hi => h i (by omega), h n (by omega)]
theorem smI_zero {f : Nat → Int} {n : Nat} (h : ∀ i, i < n → f i = 0) : smI f n = 0 := by
  induction n with
  | zero => rfl
  | succ n ih => rw [smI, ih fun i hi => h i (by omega), h n (by omega)]; rfl
theorem smI_add {f : Nat → Int} {a : Nat} : ∀ {b : Nat}, smI f (a + b) = smI f a + smI (fun i => f (a + i)) b := by
  intro b
  induction b with
  | zero => rw [Nat.add_zero, smI, Int.add_zero]
  | succ b ih => rw [← Nat.add_assoc, smI, ih, smI, Int.add_assoc]
theorem smI_plus {f g : Nat → Int} : ∀ {n : Nat}, smI (fun i => f i + g i) n = smI f n + smI g n := by
  intro n
  induction n with
  | zero => rfl
  | succ n ih => rw [smI, smI, smI, ih]; omega
theorem smI_swap {f : Nat → Nat → Int} {b : Nat} : ∀ {a : Nat}, smI (fun i => smI (fun j => f i j) b) a = smI (fun j => smI (fun i => f i j) a) b := by
  intro a
  induction a with
  | zero =>
    rw [smI]
    exact (smI_zero fun j _ => rfl).symm
  | succ a ih =>
    rw [smI, ih, ← smI_plus]
    exact smI_cong fun j _ => by rw [smI]
theorem smI_if {f : Nat → Int} {c : Prop} [Decidable c] {n : Nat} : (if c then smI f n else 0) = smI (fun i => if c then f i else 0) n := by
  by_cases h : c
  · rw [if_pos h]
    exact smI_cong fun i _ => by rw [if_pos h]
  · rw [if_neg h, smI_zero fun i _ => by rw [if_neg h]]
theorem smI_bd {f : Nat → Int} {B : Int} : ∀ {n : Nat}, (∀ i, i < n → 0 ≤ f i ∧ f i ≤ B) → 0 ≤ smI f n ∧ smI f n ≤ n * B := by
  intro n
  induction n with
  | zero => intro _; rw [smI]; omega
  | succ n ih =>
    intro h
    have a := ih fun i hi => h i (by omega)
    have b := h n (by omega)
    rw [smI, show ((n + 1 : Nat) : Int) * B = n * B + B by rw [Int.natCast_add, Int.add_mul]; omega]
    omega
theorem smI_mono {f : Nat → Int} {a : Nat} : ∀ {b : Nat}, a ≤ b → (∀ i, i < b → 0 ≤ f i) → smI f a ≤ smI f b := by
  intro b
  induction b with
  | zero => intro h _; rw [show a = 0 by omega]; exact Int.le_refl _
  | succ b ih =>
    intro h hf
    by_cases e : a = b + 1
    · rw [e]; exact Int.le_refl _
    · have := ih (by omega) fun i hi => hf i (by omega)
      have := hf b (by omega)
      rw [smI]
      omega
theorem smI_gap {f : Nat → Int} {a : Nat} : ∀ {b : Nat}, a ≤ b → (∀ i, a ≤ i → i < b → f i = 0) → smI f b = smI f a := by
  intro b
  induction b with
  | zero => intro h _; rw [show a = 0 by omega]
  | succ b ih =>
    intro h hf
    by_cases e : a = b + 1
    · rw [e]
    · rw [smI, ih (by omega) fun i h1 h2 => hf i h1 (by omega), hf b (by omega) (by omega), Int.add_zero]
theorem smI_mul {f : Nat → Int} {b : Nat} : ∀ {a : Nat}, smI f (a * b) = smI (fun d => smI (fun r => f (d * b + r)) b) a := by
  intro a
  induction a with
  | zero => rw [Nat.zero_mul]; rfl
  | succ a ih => rw [Nat.succ_mul, smI_add, ih, smI]
/-! in how many ways -/
def cut (caps : Nat → Int) (i : Nat) (v : Int) (j : Nat) : Int := if j = i then caps i - v else caps j
def DW (w : Int → Int) (k : Nat) : Nat → (Nat → Int) → Nat → Int
  | 0, _, _ => 1
  | m + 1, caps, S => if S.testBit m = true then smI (fun i => if w m ≤ caps i then DW w k m (cut caps i (w m)) S else 0) k else DW w k m caps S
theorem DW_S {w : Int → Int} {k : Nat} : ∀ {m : Nat} {caps : Nat → Int} {S T : Nat}, (∀ j, j < m → S.testBit j = T.testBit j) → DW w k m caps S = DW w k m caps T := by
  intro m
  induction m with
  | zero => intro caps S T _; rfl
  | succ m ih =>
    intro caps S T h
    rw [DW, DW, h m (by omega), ih (caps := caps) fun j hj => h j (by omega), smI_cong fun i _ => by rw [ih (caps := cut caps i (w m)) fun j hj => h j (by omega)]]
theorem DW_C {w : Int → Int} {k : Nat} : ∀ {m : Nat} {caps caps' : Nat → Int} {S : Nat}, (∀ j, j < k → caps j = caps' j) → DW w k m caps S = DW w k m caps' S := by
  intro m
  induction m with
  | zero => intro caps caps' S _; rfl
  | succ m ih =>
    intro caps caps' S h
    rw [DW, DW, ih h, smI_cong fun i hi => by rw [h i hi, ih (caps := cut caps i (w m)) (caps' := cut caps' i (w m)) fun j hj => by unfold cut; rw [h i hi, h j hj]]]
theorem DW_bd {w : Int → Int} {k : Nat} (hk : k ≤ 4) : ∀ {m : Nat} {caps : Nat → Int} {S : Nat}, 0 ≤ DW w k m caps S ∧ DW w k m caps S ≤ ((4 ^ m : Nat) : Int) := by
  intro m
  induction m with
  | zero =>
    intro caps S
    show (0 : Int) ≤ 1 ∧ (1 : Int) ≤ ((4 ^ 0 : Nat) : Int)
    exact ⟨by decide, by decide⟩
  | succ m ih =>
    intro caps S
    have p : (4 ^ (m + 1) : Nat) = 4 * 4 ^ m := by rw [Nat.pow_succ, Nat.mul_comm]
    rw [DW, p]
    by_cases c : S.testBit m = true
    · rw [if_pos c]
      have b := smI_bd (f := fun i => if w m ≤ caps i then DW w k m (cut caps i (w m)) S else 0) (B := ((4 ^ m : Nat) : Int)) (n := k) fun i _ => by
        by_cases d : w m ≤ caps i
        · simp only [if_pos d]
          exact ih
        · simp only [if_neg d]
          exact ⟨Int.le_refl 0, by omega⟩
      have : (k : Int) * ((4 ^ m : Nat) : Int) ≤ 4 * ((4 ^ m : Nat) : Int) := Int.mul_le_mul_of_nonneg_right (by omega) (by omega)
      omega
    · rw [if_neg c]
      have := ih (caps := caps) (S := S)
      omega
theorem low_bit {m q j : Nat} (hq : q < 2 ^ m) (hj : m ≤ j) : q.testBit j = false := Nat.testBit_lt_two_pow (Nat.lt_of_lt_of_le hq (Nat.pow_le_pow_right (by decide) hj))
theorem add_bit {m q : Nat} (hq : q < 2 ^ m) (j : Nat) : (2 ^ m + q).testBit j = (q.testBit j || decide (j = m)) := by
  by_cases c : j < m
  · rw [Nat.testBit_two_pow_add_gt c, decide_eq_false (by omega), Bool.or_false]
  · by_cases e : j = m
    · rw [e, Nat.testBit_two_pow_add_eq, low_bit hq (Nat.le_refl m), decide_eq_true rfl]
      rfl
    · rw [low_bit hq (by omega), decide_eq_false e, low_bit (m := m + 1) (by rw [Nat.pow_succ]; omega) (by omega)]
      rfl
theorem DW_main {w : Int → Int} {k : Nat} : ∀ {m : Nat} {caps : Nat → Int} {S : Nat}, (∀ i : Nat, i < m → 0 ≤ w i) → 0 ≤ caps k → DW w (k + 1) m caps S = smI (fun q => if q &&& S = q ∧ sS w m q ≤ caps k then DW w k m caps (S - q) else 0) (2 ^ m) := by
  have nn : ∀ (m : Nat) (q : Nat), (∀ i : Nat, i < m → 0 ≤ w i) → 0 ≤ sS w m q := by
    intro m
    induction m with
    | zero => intro q _; exact Int.le_refl 0
    | succ m ih =>
      intro q hw
      have := ih q fun i hi => hw i (by omega)
      have := hw m (by omega)
      rw [sS]
      split <;> omega
  intro m
  induction m with
  | zero =>
    intro caps S _ hc
    rw [Nat.pow_zero, smI, smI, if_pos ⟨Nat.zero_and S, hc⟩]
    rfl
  | succ m ih =>
    intro caps S hw hc
    have hw' : ∀ i : Nat, i < m → 0 ≤ w i := fun i hi => hw i (by omega)
    have p2 : 2 ^ (m + 1) = 2 ^ m + 2 ^ m := by rw [Nat.pow_succ]; omega
    rw [DW, p2, smI_add (a := 2 ^ m) (b := 2 ^ m)]
    have sl : ∀ q, q < 2 ^ m → sS w (m + 1) q = sS w m q := fun q hq => by rw [sS, low_bit hq (Nat.le_refl m)]; simp
    have sh : ∀ q, q < 2 ^ m → sS w (m + 1) (2 ^ m + q) = sS w m q + w m := fun q hq => by
      rw [sS, add_bit hq, decide_eq_true rfl, Bool.or_true, if_pos rfl, sS_cong (S := 2 ^ m + q) (T := q) fun j hj => by rw [add_bit hq, decide_eq_false (by omega), Bool.or_false]]
    by_cases c : S.testBit m = true
    · rw [if_pos c, smI]
      have lo : smI (fun q => if q &&& S = q ∧ sS w (m + 1) q ≤ caps k then DW w k (m + 1) caps (S - q) else 0) (2 ^ m) = smI (fun i => if w m ≤ caps i then DW w (k + 1) m (cut caps i (w m)) S else 0) k := by
        have e1 : ∀ q, q < 2 ^ m → (if q &&& S = q ∧ sS w (m + 1) q ≤ caps k then DW w k (m + 1) caps (S - q) else 0) = smI (fun i => if q &&& S = q ∧ sS w m q ≤ caps k then (if w m ≤ caps i then DW w k m (cut caps i (w m)) (S - q) else 0) else 0) k := fun q hq => by
          rw [sl q hq, ← smI_if]
          by_cases d : q &&& S = q ∧ sS w m q ≤ caps k
          · rw [if_pos d, if_pos d, DW, sub_bit d.1, c, low_bit hq (Nat.le_refl m)]
            rfl
          · rw [if_neg d, if_neg d]
        rw [smI_cong e1, smI_swap]
        refine smI_cong fun i hi => ?_
        by_cases d : w m ≤ caps i
        · simp only [if_pos d]
          have ck : cut caps i (w m) k = caps k := if_neg (by omega)
          rw [ih (caps := cut caps i (w m)) (S := S) hw' (by rw [ck]; exact hc), ck]
        · simp only [if_neg d]
          exact smI_zero fun q _ => by split <;> rfl
      have hi : smI (fun q => if (2 ^ m + q) &&& S = 2 ^ m + q ∧ sS w (m + 1) (2 ^ m + q) ≤ caps k then DW w k (m + 1) caps (S - (2 ^ m + q)) else 0) (2 ^ m) = if w m ≤ caps k then DW w (k + 1) m (cut caps k (w m)) S else 0 := by
        have sub : ∀ q, q < 2 ^ m → ((2 ^ m + q) &&& S = 2 ^ m + q ↔ q &&& S = q) := fun q hq => by
          rw [sub_iff, sub_iff]
          constructor
          · intro h j hj
            exact h j (by rw [add_bit hq, hj]; rfl)
          · intro h j hj
            rw [add_bit hq] at hj
            rcases Bool.or_eq_true_iff.mp hj with hj | hj
            · exact h j hj
            · rw [of_decide_eq_true hj]
              exact c
        by_cases d : w m ≤ caps k
        · rw [if_pos d]
          have ck : cut caps k (w m) k = caps k - w m := if_pos rfl
          rw [ih (caps := cut caps k (w m)) (S := S) hw' (by rw [ck]; omega), ck]
          refine smI_cong fun q hq => ?_
          by_cases e : q &&& S = q ∧ sS w m q ≤ caps k - w m
          · rw [if_pos e, if_pos ⟨(sub q hq).mpr e.1, by rw [sh q hq]; omega⟩, DW]
            have sb := (sub q hq).mpr e.1
            rw [sub_bit sb, add_bit hq, decide_eq_true rfl, Bool.or_true, c]
            show DW w k m caps (S - (2 ^ m + q)) = _
            rw [DW_C (caps := cut caps k (w m)) (caps' := caps) fun j hj => if_neg (by omega)]
            exact DW_S fun j hj => by rw [sub_bit sb, sub_bit e.1, add_bit hq, decide_eq_false (by omega), Bool.or_false]
          · rw [if_neg e, if_neg]
            rintro ⟨e1, e2⟩
            rw [sh q hq] at e2
            exact e ⟨(sub q hq).mp e1, by omega⟩
        · rw [if_neg d]
          refine smI_zero fun q hq => if_neg ?_
          rintro ⟨e1, e2⟩
          rw [sh q hq] at e2
          have := nn m q hw'
          omega
      rw [lo, hi]
    · rw [if_neg c, ih hw' hc]
      have z : smI (fun q => if (2 ^ m + q) &&& S = 2 ^ m + q ∧ sS w (m + 1) (2 ^ m + q) ≤ caps k then DW w k (m + 1) caps (S - (2 ^ m + q)) else 0) (2 ^ m) = 0 := smI_zero fun q hq => if_neg (by
        rintro ⟨e1, _⟩
        exact c (sub_iff.mp e1 m (by rw [add_bit hq, decide_eq_true rfl, Bool.or_true])))
      rw [z, Int.add_zero]
      refine smI_cong fun q hq => ?_
      rw [sl q hq]
      by_cases d : q &&& S = q ∧ sS w m q ≤ caps k
      · rw [if_pos d, if_pos d, DW, sub_bit d.1]
        cases e : S.testBit m with
        | false => rfl
        | true => exact absurd e c
      · rw [if_neg d, if_neg d]
