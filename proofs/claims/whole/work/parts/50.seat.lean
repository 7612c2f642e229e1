/-! SEATED: the table told by one rule -/
theorem bits8 : ∀ s, s < 256 → ∀ k, k < 8 → (Nat.testBit s k = true → 2 ^ k ≤ s ∧ Nat.testBit (s - 2 ^ k) k = false) ∧ (Nat.testBit s k = false → s ||| 2 ^ k = s + 2 ^ k ∧ Nat.testBit (s + 2 ^ k) k = true) := by decide +kernel
def seS (E : Nat → Nat → Bool) (T : Int → Int) (v k : Nat) : Nat → Int
  | 0 => 0
  | j + 1 => if E k j = true then seS E T v k j else w32 (seS E T v k j + T ((v * 8 + j : Nat) : Int))
theorem seS_cong {E : Nat → Nat → Bool} {T T' : Int → Int} {v k : Nat} : ∀ {m : Nat}, (∀ j : Nat, j < m → T ((v * 8 + j : Nat) : Int) = T' ((v * 8 + j : Nat) : Int)) → seS E T v k m = seS E T' v k m := by
  intro m
  induction m with
  | zero => intro _; rfl
  | succ m ih =>
    intro h
    rw [seS, seS, ih (fun j hj => h j (by omega)), h m (by omega)]
def seB (r : Int) (k : Nat) : Int := if r = 0 then 1 else if k = 0 then 1 else 0
def seR (E : Nat → Nat → Bool) (T : Int → Int) (n : Nat) (r : Int) (s k : Nat) : Int := if s.testBit k = false then 0 else if s - 2 ^ k = 0 then seB r k else seS E T (s - 2 ^ k) k n
theorem seR_cong {E : Nat → Nat → Bool} {T T' : Int → Int} {n : Nat} {r : Int} {s k : Nat} (h : ∀ v j : Nat, v < s → j < n → T ((v * 8 + j : Nat) : Int) = T' ((v * 8 + j : Nat) : Int)) : seR E T n r s k = seR E T' n r s k := by
  unfold seR
  by_cases c : s.testBit k = false
  · rw [if_pos c, if_pos c]
  · rw [if_neg c, if_neg c]
    by_cases d : s - 2 ^ k = 0
    · rw [if_pos d, if_pos d]
    · rw [if_neg d, if_neg d]
      have := Nat.two_pow_pos k
      exact seS_cong fun j hj => h _ _ (by omega) hj
def seF (E : Nat → Nat → Bool) (T : Int → Int) (n : Nat) (r : Int) : Nat → Int
  | 0 => 0
  | k + 1 => if r = 0 ∨ E k 0 = false then w32 (seF E T n r k + T (((2 ^ n - 1) * 8 + k : Nat) : Int)) else seF E T n r k
/-- the masks of those who won't sit beside each other -/
def enM (M : Int → Int) (E : Nat → Nat → Bool) (n : Nat) : Prop := ∀ a b : Nat, a < n → b < n → (iand (ishr (M a) b) 1 = 1 ↔ E a b = true) ∧ (iand (ishr (M a) b) 1 = 0 ↔ E a b = false)
theorem pow8 {n : Nat} (hn : n ≤ 8) : 1 ≤ 2 ^ n ∧ 2 ^ n ≤ 256 := ⟨Nat.two_pow_pos n, by have := Nat.pow_le_pow_right (n := 2) (by decide) hn; omega⟩
theorem c_behind {σ : St} {E : Nat → Nat → Bool} {n s k : Nat} {r : Int} (hn : n ≤ 8) (hE : enM (σ 162) E n) (hs : s < 256) (hk : k < n) : Ok (fX4_seatBehind s k n r σ) fun v σ' => σ = σ' ∧ v = seR E (σ 160) n r s k := by
  unfold fX4_seatBehind seR
  obtain ⟨b1, b2⟩ := bits8 s hs k (by omega)
  have p1 := Nat.two_pow_pos k
  rw [bit_nat (by omega) (by omega), ishl_one k (by omega)]
  generalize 2 ^ k = p at *
  by_cases c : s.testBit k = true
  · obtain ⟨b3, b4⟩ := b1 c
    have hw : w32 ((s : Int) - (p : Int)) = ((s - p : Nat) : Int) := by rw [w32_sm (by omega)]; omega
    rw [ko_f (by rw [if_pos c]; decide), ko_lb, hw, c, if_neg (show ¬ (true = false) by decide)]
    have hv : s - p < 256 := by omega
    clear b1 b2 b3 b4 c hw
    generalize s - p = v at *
    by_cases d : v = 0
    · rw [ko_t (by omega), if_pos d]
      unfold seB
      by_cases e : r = 0
      · rw [ko_t e, if_pos e, ko_some]
        exact ⟨rfl, rfl⟩
      · rw [ko_f e, if_neg e]
        by_cases f : k = 0
        · rw [ko_t (by omega), if_pos f, ko_some]
          exact ⟨rfl, rfl⟩
        · rw [ko_f (by omega), if_neg f, ko_some]
          exact ⟨rfl, rfl⟩
    · rw [ko_f (by omega), if_neg d, ko_bnd]
      refine for_ok n (fun i x σ' => σ = σ' ∧ x = (seS E (σ 160) v k i, (i : Int))) (by omega) ⟨rfl, rfl⟩ ?_ ?_
      · rintro i x σ' hi ⟨rfl, rfl⟩
        obtain ⟨e1, e2⟩ := hE k i hk hi
        have wi : w32 (w32 ((v : Int) * 8) + (i : Int)) = ((v * 8 + i : Nat) : Int) := by rw [w32_l, w32_sm (by omega)]; omega
        dsimp only
        rw [ko_t (by omega), ko_lod]
        refine ⟨by omega, ?_⟩
        by_cases c : E k i = true
        · rw [ko_f (by rw [e2, c]; decide), ko_some, ko_jl, w32_nat (by omega), seS, if_pos c]
          exact ⟨rfl, rfl⟩
        · rw [ko_t (e2.mpr (by simpa using c)), wi, ko_lod, ko_lb, ko_some, ko_jl, w32_nat (by omega), seS, if_neg c]
          exact ⟨by omega, rfl, rfl⟩
      · rintro x σ' ⟨rfl, rfl⟩
        rw [ko_f (Int.lt_irrefl _), ko_some, ko_jr, ko_some]
        exact ⟨rfl, rfl⟩
  · rw [ko_t (by rw [if_neg c]), ko_some, if_pos (by simpa using c)]
    exact ⟨rfl, rfl⟩
