/-! the law's code, run on a list -/
theorem stp_inv {o a : Int} {K K' : List Nat} (h : stp o a K = some K') : (o = 0 ∧ (0 ≤ a ∧ a ≤ 9999 ∧ K.length < 40) ∧ K' = (if a = 0 then 0 else 2) :: K) ∨ (o = 1 ∧ (0 ≤ a ∧ a ≤ 9 ∧ K.length < 40) ∧ K' = 0 :: K) ∨ (o = 9 ∧ ∃ K1, K = 1 :: K1 ∧ K' = 1 :: K1) ∨ ∃ x y K2, K = y :: x :: K2 ∧ (((2 ≤ o ∧ o ≤ 4) ∧ K' = 0 :: K2) ∨ (o = 5 ∧ y = 2 ∧ K' = 0 :: K2) ∨ ((6 ≤ o ∧ o ≤ 8) ∧ K' = 1 :: K2) ∨ ((o = 10 ∨ o = 11) ∧ x = 1 ∧ y = 1 ∧ K' = 1 :: K2)) := by
  unfold stp at h
  by_cases c0 : o = 0
  · rw [if_pos c0] at h
    by_cases d : 0 ≤ a ∧ a ≤ 9999 ∧ K.length < 40
    · rw [if_pos d] at h
      exact Or.inl ⟨c0, d, (Option.some.inj h).symm⟩
    · rw [if_neg d] at h; cases h
  rw [if_neg c0] at h
  by_cases c1 : o = 1
  · rw [if_pos c1] at h
    by_cases d : 0 ≤ a ∧ a ≤ 9 ∧ K.length < 40
    · rw [if_pos d] at h
      exact Or.inr (Or.inl ⟨c1, d, (Option.some.inj h).symm⟩)
    · rw [if_neg d] at h; cases h
  rw [if_neg c1] at h
  match K, h with
  | [], h => cases h
  | y :: S1, h =>
    dsimp only at h
    by_cases c9 : o = 9
    · rw [if_pos c9] at h
      by_cases d : y = 1
      · rw [if_pos d] at h
        exact Or.inr (Or.inr (Or.inl ⟨c9, S1, by rw [d], (Option.some.inj h).symm⟩))
      · rw [if_neg d] at h; cases h
    rw [if_neg c9] at h
    match S1, h with
    | [], h => cases h
    | x :: S2, h =>
      dsimp only at h
      refine Or.inr (Or.inr (Or.inr ⟨x, y, S2, rfl, ?_⟩))
      by_cases c2 : 2 ≤ o ∧ o ≤ 4
      · rw [if_pos c2] at h
        by_cases d : x ≠ 1 ∧ y ≠ 1
        · rw [if_pos d] at h
          exact Or.inl ⟨c2, (Option.some.inj h).symm⟩
        · rw [if_neg d] at h; cases h
      rw [if_neg c2] at h
      by_cases c5 : o = 5
      · rw [if_pos c5] at h
        by_cases d : x ≠ 1 ∧ y = 2
        · rw [if_pos d] at h
          exact Or.inr (Or.inl ⟨c5, d.2, (Option.some.inj h).symm⟩)
        · rw [if_neg d] at h; cases h
      rw [if_neg c5] at h
      by_cases c6 : 6 ≤ o ∧ o ≤ 8
      · rw [if_pos c6] at h
        by_cases d : x ≠ 1 ∧ y ≠ 1
        · rw [if_pos d] at h
          exact Or.inr (Or.inr (Or.inl ⟨c6, (Option.some.inj h).symm⟩))
        · rw [if_neg d] at h; cases h
      rw [if_neg c6] at h
      by_cases c10 : o = 10 ∨ o = 11
      · rw [if_pos c10] at h
        by_cases d : x = 1 ∧ y = 1
        · rw [if_pos d] at h
          exact Or.inr (Or.inr (Or.inr ⟨c10, d.1, d.2, (Option.some.inj h).symm⟩))
        · rw [if_neg d] at h; cases h
      · rw [if_neg c10] at h; cases h
theorem chk_none {op ar : Int → Int} {n : Nat} : ∀ {j : Nat} {i : Int} {S : List Nat}, chk op ar j i S = none → chk op ar (j + n) i S = none := by
  intro j
  induction j with
  | zero => intro i S h; cases h
  | succ j ih =>
    intro i S h
    rw [Nat.add_right_comm]
    rw [chk] at h ⊢
    split at h
    · rfl
    · exact ih h
theorem chk_succ {op ar : Int → Int} : ∀ {j : Nat} {i : Int} {S : List Nat}, chk op ar (j + 1) i S = (chk op ar j i S).bind fun K => stp (op (i + j)) (ar (i + j)) K := by
  intro j
  induction j with
  | zero =>
    intro i S
    show _ = stp (op (i + 0)) (ar (i + 0)) S
    rw [Int.add_zero]
    conv => lhs; rw [chk]
    split
    · rename_i h; rw [h]
    · rename_i h; rw [h]; rfl
  | succ j ih =>
    intro i S
    rw [chk]
    conv => rhs; rw [chk]
    split
    · rfl
    · rename_i S' h
      rw [ih, show i + 1 + (j : Int) = i + ((j + 1 : Nat) : Int) by omega]
/-- so far it stands, if it stands to the end -/
theorem chk_some {op ar : Int → Int} {n : Nat} {i : Int} {S K : List Nat} (h : chk op ar n i S = some K) {j : Nat} (hj : j ≤ n) : ∃ K', chk op ar j i S = some K' := by
  cases e : chk op ar j i S with
  | some K' => exact ⟨K', rfl⟩
  | none =>
    obtain ⟨d, rfl⟩ : ∃ d, n = j + d := ⟨n - j, by omega⟩
    rw [chk_none e] at h
    cases h
def tw (o x y : Int) : Int := if o = 2 then w32 (x + y) else if o = 3 then w32 (x - y) else if o = 4 then w32 (x * y) else if o = 5 then idv x y else if o = 6 then (if x < y then 1 else 0) else if o = 7 then (if x = y then 1 else 0) else if o = 8 then (if y < x then 1 else 0) else if o = 10 then (if x = 0 ∨ y = 0 then 0 else 1) else (if x = 0 ∧ y = 0 then 0 else 1)
def stv (W : Int → Int) (o a : Int) (S : List Int) : List Int := if o = 0 then a :: S else if o = 1 then W a :: S else match S with
  | [] => []
  | y :: S1 => if o = 9 then (1 - y) :: S1 else match S1 with
    | [] => []
    | x :: S2 => tw o x y :: S2
def vls (W op ar : Int → Int) (i : Int) : Nat → List Int
  | 0 => []
  | j + 1 => stv W (op (i + j)) (ar (i + j)) (vls W op ar i j)
def kok : List Nat → List Int → Prop
  | [], [] => True
  | k :: K, v :: S => ((k = 1 → v = 0 ∨ v = 1) ∧ (k = 2 → v ≠ 0)) ∧ kok K S
  | _, _ => False
def stk (M : Int → Int) : List Int → Prop
  | [] => True
  | v :: S => M (S.length : Nat) = v ∧ stk M S
theorem kok_len : ∀ {K : List Nat} {S : List Int}, kok K S → K.length = S.length
  | [], [], _ => rfl
  | k :: K, v :: S, h => by rw [List.length_cons, List.length_cons, kok_len h.2]
  | [], v :: S, h => h.elim
  | k :: K, [], h => h.elim
theorem stk_up {M : Int → Int} {p v : Int} : ∀ {S : List Int}, (S.length : Int) ≤ p → stk M S → stk (fun i => if i = p then v else M i) S
  | [], _, _ => trivial
  | x :: S, hp, h => by
    rw [List.length_cons] at hp
    exact ⟨(if_neg (by omega)).trans h.1, stk_up (by omega) h.2⟩
theorem kok_two {k j : Nat} {K : List Nat} {S : List Int} (h : kok (k :: j :: K) S) : ∃ y x S2, S = y :: x :: S2 ∧ ((k = 1 → y = 0 ∨ y = 1) ∧ (k = 2 → y ≠ 0)) ∧ ((j = 1 → x = 0 ∨ x = 1) ∧ (j = 2 → x ≠ 0)) ∧ kok K S2 := by
  match S, h with
  | y :: x :: S2, h => exact ⟨y, x, S2, rfl, h.1, h.2.1, h.2.2⟩
  | [_], h => exact h.2.elim
theorem kok_one {k : Nat} {K : List Nat} {S : List Int} (h : kok (k :: K) S) : ∃ y S1, S = y :: S1 ∧ ((k = 1 → y = 0 ∨ y = 1) ∧ (k = 2 → y ≠ 0)) ∧ kok K S1 := by
  match S, h with
  | y :: S1, h => exact ⟨y, S1, rfl, h.1, h.2⟩
