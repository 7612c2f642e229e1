/-! TEXT: characters -/
def CX (C : Int → Int) (n : Int) (σ : St) : Prop := σ 1 1 = n ∧ ∀ i, 0 ≤ i → i < n → iand (σ 2 i) 255 = C i
def CM (C : Int → Int) (n : Int) (τ : St) : Prop := τ 0 13 = n ∧ ∀ i, 0 ≤ i → i < n → τ 8 i = C i
def CC (C : Int → Int) (n : Int) : Prop := (0 ≤ n ∧ n ≤ 400) ∧ (∀ i, 0 ≤ i → i < n → 0 ≤ C i ∧ C i ≤ 255) ∧ ∀ i, n ≤ i → C i = -1
abbrev isDg (v : Int) : Prop := 48 ≤ v ∧ v ≤ 57
abbrev isLt (v : Int) : Prop := (97 ≤ v ∧ v ≤ 122) ∨ (65 ≤ v ∧ v ≤ 90)
abbrev isBl (v : Int) : Prop := v = 32 ∨ v = 10
theorem at_eq {C : Int → Int} {n i : Int} {σ : St} (h : CX C n σ) (c : CC C n) (hi : 0 ≤ i) : fX7_at i σ = some (C i, σ) := by
  unfold fX7_at
  rw [if_neg (by omega), fld_eq, h.1]
  by_cases e : i < n
  · rw [if_pos e, lod_eq ⟨hi, by have := c.1.2; omega⟩, h.2 i hi e]
  · rw [if_neg e, c.2.2 i (by omega)]
theorem raw_eq {C : Int → Int} {n i : Int} {τ : St} (h : CM C n τ) (c : CC C n) (hi : 0 ≤ i) : fX12_raw i τ = some (C i, τ) := by
  unfold fX12_raw
  rw [fld_eq, h.1]
  by_cases e : i < n
  · rw [if_pos e, lod_eq ⟨hi, by have := c.1.2; omega⟩, h.2 i hi e]
  · rw [if_neg e, c.2.2 i (by omega)]
theorem xDg_eq {v : Int} {σ : St} : fX8_isDigit v σ = some (if isDg v then 1 else 0, σ) := by
  unfold fX8_isDigit isDg
  repeat' split
  all_goals (first | rfl | (exfalso; omega))
theorem mDg_eq {v : Int} {σ : St} : fX12_isDigit v σ = some (if isDg v then 1 else 0, σ) := by
  unfold fX12_isDigit isDg
  rw [isIn_eq, bnd_some]
theorem xLt_eq {v : Int} {σ : St} : fX8_isLetter v σ = some (if isLt v then 1 else 0, σ) := by
  unfold fX8_isLetter isLt
  by_cases h : 97 ≤ v ∧ v ≤ 122
  · rw [if_neg (by omega), if_neg (by omega), bnx_inr, if_pos (Or.inl h)]
  · by_cases h2 : v < 97
    · rw [if_pos h2, bnx_inl]
      by_cases h3 : 65 ≤ v ∧ v ≤ 90
      · rw [if_neg (by omega), if_neg (by omega), if_pos (Or.inr h3)]
      · rw [if_neg (show ¬ ((97 ≤ v ∧ v ≤ 122) ∨ (65 ≤ v ∧ v ≤ 90)) by omega)]
        by_cases h4 : v < 65
        · rw [if_pos h4]
        · rw [if_neg h4, if_pos (by omega)]
    · rw [if_neg h2, if_pos (by omega), bnx_inl, if_neg (by omega), if_pos (by omega), if_neg (show ¬ ((97 ≤ v ∧ v ≤ 122) ∨ (65 ≤ v ∧ v ≤ 90)) by omega)]
theorem mLt_eq {v : Int} {σ : St} : fX12_isLetter v σ = some (if isLt v then 1 else 0, σ) := by
  unfold fX12_isLetter isLt
  rw [isIn_eq, bnd_some]
  by_cases h : 97 ≤ v ∧ v ≤ 122
  · rw [if_pos h, if_neg (by decide), if_pos (Or.inl h)]
  · rw [if_neg h, if_pos rfl, isIn_eq, bnd_some]
    by_cases h3 : 65 ≤ v ∧ v ≤ 90
    · rw [if_pos h3, if_neg (by decide), if_pos (Or.inr h3)]
    · rw [if_neg h3, if_pos rfl, if_neg (show ¬ ((97 ≤ v ∧ v ≤ 122) ∨ (65 ≤ v ∧ v ≤ 90)) by omega)]
theorem xBl_eq {v : Int} {σ : St} : fX8_isBlank v σ = some (if isBl v then 1 else 0, σ) := by
  unfold fX8_isBlank isBl
  by_cases h : v = 32
  · rw [if_pos h, if_pos (Or.inl h)]
  · rw [if_neg h]
    by_cases h2 : v = 10
    · rw [if_pos h2, if_pos (Or.inr h2)]
    · rw [if_neg h2, if_neg (show ¬ (v = 32 ∨ v = 10) by omega)]
def Run (f : Int → Prop) (C : Int → Int) (i j : Int) : Prop := i ≤ j ∧ (∀ k, i ≤ k → k < j → f (C k)) ∧ ¬ f (C j)
theorem Run.uniq {f : Int → Prop} {C : Int → Int} {i j j' : Int} (h : Run f C i j) (h' : Run f C i j') : j = j' := by
  obtain ⟨a, b, c⟩ := h
  obtain ⟨a', b', c'⟩ := h'
  by_cases e : j < j'
  · exact absurd (b' j a e) c
  · by_cases e' : j' < j
    · exact absurd (b j' a' e') c'
    · omega
theorem Run.le {f : Int → Prop} {C : Int → Int} {n i j : Int} (h : Run f C i j) (c : CC C n) (hf : ¬ f (-1)) (hi : i ≤ n) : j ≤ n := by
  by_cases e : n < j
  · exact absurd (h.2.1 n hi e) (by rw [c.2.2 n (Int.le_refl n)]; exact hf)
  · omega
theorem nDg : ¬ isDg (-1) := by decide
theorem nLt : ¬ isLt (-1) := by decide
theorem nBl : ¬ isBl (-1) := by decide
/-- the end of a token that begins at i -/
def Ten (C : Int → Int) (i j : Int) : Prop := if isDg (C i) then Run isDg C (i + 1) j else if isLt (C i) then Run isLt C (i + 1) j else j = i + 1
theorem behind_ok {C : Int → Int} {n i : Int} {σ : St} (h : CX C n σ) (c : CC C n) (hi : 0 ≤ i ∧ i < n) : Ok (fX8_behind i σ) fun r σ' => σ = σ' ∧ Ten C i r := by
  have hn := c.1.2
  unfold fX8_behind
  rw [lb_eq, at_eq h c hi.1, bnd_some, xDg_eq, bnd_some, w32_sm (by omega)]
  unfold Ten
  by_cases d : isDg (C i)
  · simp only [if_pos d]
    rw [if_neg (by decide), ko_bnd]
    refine while_ok (fun x s => σ = s ∧ i + 1 ≤ x ∧ x ≤ n ∧ ∀ k, i + 1 ≤ k → k < x → isDg (C k)) (fun x _ => (n - x).toNat) ⟨rfl, Int.le_refl _, by omega, fun k _ _ => by omega⟩ (by omega) ?_
    rintro x s ⟨rfl, x0, x1, hx⟩
    by_cases q : x < 400
    · rw [if_pos q, at_eq h c (by omega), bnd_some, xDg_eq, bnd_some]
      by_cases d2 : isDg (C x)
      · rw [if_pos d2, if_neg (by decide)]
        have xn : x < n := by
          by_cases e : x < n
          · exact e
          · exact absurd d2 (by rw [c.2.2 x (by omega)]; exact nDg)
        refine ok_ret ⟨⟨rfl, ?_, ?_, ?_⟩, ?_⟩ <;> rw [w32_sm (by omega)]
        · omega
        · omega
        · intro k k0 k1
          by_cases e : k = x
          · rw [e]; exact d2
          · exact hx k k0 (by omega)
        · omega
      · rw [if_neg d2, if_pos rfl]
        exact ok_ret (ok_ret ⟨rfl, x0, hx, d2⟩)
    · rw [if_neg q]
      exact ok_ret (ok_ret ⟨rfl, x0, hx, by rw [c.2.2 x (by omega)]; exact nDg⟩)
  · simp only [if_neg d, if_true]
    rw [at_eq h c hi.1, bnd_some, xLt_eq, bnd_some]
    by_cases l : isLt (C i)
    · simp only [if_pos l]
      rw [if_neg (by decide), ko_bnd]
      refine while_ok (fun x s => σ = s ∧ i + 1 ≤ x ∧ x ≤ n ∧ ∀ k, i + 1 ≤ k → k < x → isLt (C k)) (fun x _ => (n - x).toNat) ⟨rfl, Int.le_refl _, by omega, fun k _ _ => by omega⟩ (by omega) ?_
      rintro x s ⟨rfl, x0, x1, hx⟩
      by_cases q : x < 400
      · rw [if_pos q, at_eq h c (by omega), bnd_some, xLt_eq, bnd_some]
        by_cases d2 : isLt (C x)
        · rw [if_pos d2, if_neg (by decide)]
          have xn : x < n := by
            by_cases e : x < n
            · exact e
            · exact absurd d2 (by rw [c.2.2 x (by omega)]; exact nLt)
          refine ok_ret ⟨⟨rfl, ?_, ?_, ?_⟩, ?_⟩ <;> rw [w32_sm (by omega)]
          · omega
          · omega
          · intro k k0 k1
            by_cases e : k = x
            · rw [e]; exact d2
            · exact hx k k0 (by omega)
          · omega
        · rw [if_neg d2, if_pos rfl]
          exact ok_ret (ok_ret ⟨rfl, x0, hx, d2⟩)
      · rw [if_neg q]
        exact ok_ret (ok_ret ⟨rfl, x0, hx, by rw [c.2.2 x (by omega)]; exact nLt⟩)
    · simp only [if_neg l, if_true]
      exact ok_ret ⟨rfl, rfl⟩
