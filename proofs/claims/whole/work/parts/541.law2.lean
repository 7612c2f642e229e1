/-! the law's code: kinds, and the class's and the reference's join of two -/
theorem tw_01 {o x y : Int} (h : (6 ≤ o ∧ o ≤ 8) ∨ o = 10 ∨ o = 11) : tw o x y = 0 ∨ tw o x y = 1 := by
  unfold tw
  rw [if_neg (by omega), if_neg (by omega), if_neg (by omega), if_neg (by omega)]
  (repeat' split) <;> first | exact Or.inl rfl | exact Or.inr rfl
theorem stv_two {W : Int → Int} {o a x y : Int} {S : List Int} (h : 2 ≤ o) (h9 : o ≠ 9) : stv W o a (y :: x :: S) = tw o x y :: S := by
  unfold stv
  rw [if_neg (by omega), if_neg (by omega)]
  dsimp only
  rw [if_neg h9]
theorem stv_not {W : Int → Int} {a y : Int} {S : List Int} : stv W 9 a (y :: S) = (1 - y) :: S := rfl
theorem kok_step {W : Int → Int} {o a : Int} {K K' : List Nat} {S : List Int} (h : stp o a K = some K') (hk : kok K S) : kok K' (stv W o a S) := by
  rcases stp_inv h with ⟨rfl, h1, rfl⟩ | ⟨rfl, h1, rfl⟩ | ⟨rfl, K1, rfl, rfl⟩ | ⟨x, y, K2, rfl, h1⟩
  · refine ⟨?_, hk⟩
    by_cases c : a = 0
    · rw [if_pos c]
      exact ⟨fun h => by omega, fun h => by omega⟩
    · rw [if_neg c]
      exact ⟨fun h => by omega, fun _ => c⟩
  · exact ⟨⟨fun h => by omega, fun h => by omega⟩, hk⟩
  · obtain ⟨y, S1, rfl, ⟨q1, q2⟩, q3⟩ := kok_one hk
    rw [stv_not]
    have := q1 rfl
    exact ⟨⟨fun _ => by omega, fun h => by omega⟩, q3⟩
  · obtain ⟨y', x', S2, rfl, q1, q2, q3⟩ := kok_two hk
    rw [stv_two (by omega) (by omega)]
    rcases h1 with ⟨_, rfl⟩ | ⟨_, _, rfl⟩ | ⟨h2, rfl⟩ | ⟨h2, _, _, rfl⟩
    · exact ⟨⟨fun h => by omega, fun h => by omega⟩, q3⟩
    · exact ⟨⟨fun h => by omega, fun h => by omega⟩, q3⟩
    · exact ⟨⟨fun _ => tw_01 (Or.inl h2), fun h => by omega⟩, q3⟩
    · exact ⟨⟨fun _ => tw_01 (Or.inr h2), fun h => by omega⟩, q3⟩
theorem kok_vls {W op ar : Int → Int} {i : Int} : ∀ {j : Nat} {K : List Nat}, chk op ar j i [] = some K → kok K (vls W op ar i j) := by
  intro j
  induction j with
  | zero => intro K h; cases h; trivial
  | succ j ih =>
    intro K h
    rw [chk_succ] at h
    cases e : chk op ar j i [] with
    | none => rw [e] at h; cases h
    | some K0 =>
      rw [e] at h
      exact kok_step h (ih e)
/-- what joins two, for the class -/
theorem joined_eq {o x y : Int} {σ : St} (ho : (2 ≤ o ∧ o ≤ 8) ∨ o = 10 ∨ o = 11) (h5 : o = 5 → y ≠ 0) : fX3_joined (-(enc o 0)) x y σ = some (tw o x y, σ) := by
  unfold fX3_joined
  rcases (show o = 2 ∨ o = 3 ∨ o = 4 ∨ o = 5 ∨ o = 6 ∨ o = 7 ∨ o = 8 ∨ o = 10 ∨ o = 11 by omega) with rfl | rfl | rfl | rfl | rfl | rfl | rfl | rfl | rfl
  · rfl
  · rfl
  · rfl
  · have h := h5 rfl
    show (if y = 0 then _ else _) = _
    rw [if_neg h, dvc_eq h]
    rfl
  · show (if x < y then _ else _) = some (if x < y then _ else _, σ)
    by_cases c : x < y
    · rw [if_pos c, if_pos c]; rfl
    · rw [if_neg c, if_neg c]; rfl
  · show (if x = y then _ else _) = some (if x = y then _ else _, σ)
    by_cases c : x = y
    · rw [if_pos c, if_pos c]; rfl
    · rw [if_neg c, if_neg c]; rfl
  · show (if y < x then _ else _) = some (if y < x then _ else _, σ)
    by_cases c : y < x
    · rw [if_pos c, if_pos c]; rfl
    · rw [if_neg c, if_neg c]; rfl
  · show bnx (if x = 0 then _ else _) _ = some (if x = 0 ∨ y = 0 then _ else _, σ)
    by_cases c : x = 0
    · rw [if_pos c, if_pos (Or.inl c)]; rfl
    · rw [if_neg c]
      by_cases d : y = 0
      · rw [if_pos d, if_pos (Or.inr d)]; rfl
      · rw [if_neg d, if_neg (show ¬ (x = 0 ∨ y = 0) by omega)]; rfl
  · show bnx (if x = 0 then _ else _) _ = some (if x = 0 ∧ y = 0 then _ else _, σ)
    by_cases c : x = 0
    · rw [if_pos c]
      by_cases d : y = 0
      · rw [if_pos d, if_pos (show x = 0 ∧ y = 0 from ⟨c, d⟩)]; rfl
      · rw [if_neg d, if_neg (show ¬ (x = 0 ∧ y = 0) by omega)]; rfl
    · rw [if_neg c, if_neg (show ¬ (x = 0 ∧ y = 0) by omega)]; rfl
/-- and for the reference -/
theorem twoOf_eq {o x y : Int} {τ : St} (ho : (2 ≤ o ∧ o ≤ 8) ∨ o = 10 ∨ o = 11) (h5 : o = 5 → y ≠ 0) (h1 : o = 10 ∨ o = 11 → (x = 0 ∨ x = 1) ∧ (y = 0 ∨ y = 1)) : fX12_twoOf o x y τ = some (tw o x y, τ) := by
  unfold fX12_twoOf
  rcases (show o = 2 ∨ o = 3 ∨ o = 4 ∨ o = 5 ∨ o = 6 ∨ o = 7 ∨ o = 8 ∨ o = 10 ∨ o = 11 by omega) with rfl | rfl | rfl | rfl | rfl | rfl | rfl | rfl | rfl
  · rfl
  · rfl
  · rfl
  · show dvc y _ = _
    rw [dvc_eq (h5 rfl)]
    rfl
  · show (if x < y then _ else _) = some (if x < y then _ else _, τ)
    by_cases c : x < y
    · rw [if_pos c, if_pos c]
    · rw [if_neg c, if_neg c]
  · show (if x = y then _ else _) = some (if x = y then _ else _, τ)
    by_cases c : x = y
    · rw [if_pos c, if_pos c]
    · rw [if_neg c, if_neg c]
  · show (if y < x then _ else _) = some (if y < x then _ else _, τ)
    by_cases c : y < x
    · rw [if_pos c, if_pos c]
    · rw [if_neg c, if_neg c]
  · obtain ⟨rfl | rfl, rfl | rfl⟩ := h1 (Or.inl rfl) <;> rfl
  · obtain ⟨rfl | rfl, rfl | rfl⟩ := h1 (Or.inr rfl) <;> rfl
