/-! TEXT: the reference's words -/
def qW (j : Nat) : Nat := if j ≤ 6 then j else if j ≤ 16 then j + 11 else j - 10
def kW (j : Int) : Int := if j ≤ 6 then 260 + j else 263 + j
def sepT : List Nat := [0, 7, 13, 19, 24, 27, 31, 35, 42, 47, 55, 62, 67, 74, 81, 86, 92, 100, 107, 110, 113, 117, 120, 124, 130, 135, 142, 148, 151]
theorem tab_ok : ∀ j, j < 28 → (qW j < 28 ∧ sepT.getD (j + 1) 0 = sepT.getD j 0 + 1 + strL.getD (qW j) 0 ∧ sepT.getD (j + 1) 0 ≤ 151 ∧ cw (qW j) = kW j) ∧ (∀ i, i < strL.getD (qW j) 0 → wordsT.getD (sepT.getD j 0 + 1 + i) 0 = (strW.getD (qW j) []).getD i 0 ∧ wordsT.getD (sepT.getD j 0 + 1 + i) 0 ≠ 32) ∧ wordsT.getD (sepT.getD (j + 1) 0) 0 = 32 := by decide +kernel
theorem wd_apart : ∀ w, w < 28 → ∀ w', w' < 28 → w = w' ∨ strL.getD w 0 ≠ strL.getD w' 0 ∨ ∃ i, i < strL.getD w 0 ∧ (strW.getD w []).getD i 0 ≠ (strW.getD w' []).getD i 0 := by decide +kernel
theorem qW_on : ∀ w, w < 28 → ∃ j, j < 28 ∧ qW j = w := by decide +kernel
theorem Wd.uniq {C : Int → Int} {a b : Int} {w w' : Nat} (hw : w < 28) (hw' : w' < 28) (h : Wd C a b w) (h' : Wd C a b w') : w = w' := by
  rcases wd_apart w hw w' hw' with e | e | ⟨i, hi, e⟩
  · exact e
  · exact absurd (show strL.getD w 0 = strL.getD w' 0 by have := h.1; have := h'.1; omega) e
  · exact absurd ((h.2 i hi).symm.trans (h'.2 i (by have := h.1; have := h'.1; omega))) e
def WT (τ : St) : Prop := ∀ i, 0 ≤ i → i < 152 → τ 9 i = wordsT.getD i.toNat 0
def MW (C : Int → Int) (a b r : Int) : Prop := (∃ j : Nat, j < 28 ∧ Wd C a b (qW j) ∧ r = j) ∨ (r = -1 ∧ ∀ j : Nat, j < 28 → ¬ Wd C a b (qW j))
theorem WT.at {τ : St} (h : WT τ) (i : Nat) (hi : i < 152) : τ 9 (i : Int) = wordsT.getD i 0 := by
  rw [h i (by omega) (by omega), Int.toNat_natCast]
theorem wordAt_ok {C : Int → Int} {n a b : Int} {τ : St} (h : CM C n τ) (c : CC C n) (t : WT τ) (ha : 0 ≤ a ∧ a < b ∧ b ≤ n) (hl : ∀ k, a ≤ k → k < b → isLt (C k)) : Ok (fX12_wordAt a b τ) fun r τ' => τ = τ' ∧ MW C a b r := by
  have hn := c.1.2
  unfold fX12_wordAt
  rw [ko_bnx]
  refine for_ok 28 (fun j x s => τ = s ∧ x.1 = (j : Int) - 1 ∧ x.2 = (sepT.getD j 0 : Nat) ∧ ∀ j' : Nat, j' < j → ¬ Wd C a b (qW j')) (by decide) ⟨rfl, rfl, rfl, fun _ _ => by omega⟩ ?_ ?_
  · rintro j ⟨x1, x2⟩ s hj ⟨rfl, e1, e2, no⟩
    obtain ⟨⟨hq, s1, s2, -⟩, tw, t32⟩ := tab_ok j hj
    have hL := strL_bd (qW j) hq
    generalize eL : strL.getD (qW j) 0 = L at *
    generalize eS : sepT.getD j 0 = S at *
    generalize eS1 : sepT.getD (j + 1) 0 = S1 at *
    simp only at e1 e2
    subst e1 e2
    rw [if_pos (by omega), w32_sm (x := ((j : Int) - 1 + 1)) (by omega), lb_eq, w32_sm (x := ((S : Int) + 1)) (by omega), ko_bnd]
    have sp : ∀ i : Nat, i ≤ L → τ 9 ((S : Int) + 1 + i) = wordsT.getD (S + 1 + i) 0 := fun i hi => by
      rw [show (S : Int) + 1 + i = ((S + 1 + i : Nat) : Int) by omega]
      exact t.at _ (by omega)
    have sL : τ 9 ((S : Int) + 1 + L) = 32 := by rw [sp L (Nat.le_refl _), ← s1]; exact t32
    refine while_ok (fun x s => τ = s ∧ 0 ≤ x ∧ x ≤ L ∧ a + x ≤ b ∧ ∀ i : Nat, (i : Int) < x → C (a + i) = τ 9 ((S : Int) + 1 + i)) (fun x _ => (L - x).toNat) ⟨rfl, Int.le_refl _, by omega, by omega, fun k _ => by omega⟩ (by omega) ?_
    rintro x s ⟨rfl, x0, xL, x1, hx⟩
    have fin : (a + x = b ∨ (a + x < b ∧ τ 9 ((S : Int) + 1 + x) ≠ C (a + x))) → Ok (some (Sum.inr (α := Int) x, τ)) (Jx (fun x' σ' => (τ = σ' ∧ 0 ≤ x' ∧ x' ≤ L ∧ a + x' ≤ b ∧ ∀ i : Nat, (i : Int) < x' → C (a + i) = τ 9 ((S : Int) + 1 + i)) ∧ (L - x').toNat < (L - x).toNat) fun (y15 : Int) s16 => Ok (bnx (if w32 (a + y15) = b then lod s16 9 152 (w32 ((S : Int) + 1 + y15)) fun v18 => if v18 = 32 then some (.inr (.inr (.inl ((j : Int) - 1 + 1))), s16) else some (.inl (), s16) else some (.inl (), s16)) fun (y20 : Unit) s21 => lb ((S : Int) + 1) fun v23 => bnd (itr FUEL (fun (x25 : Int) s26 => lod s26 9 152 x25 fun v28 => if v28 = 32 then some (.inr x25, s26) else lb (w32 (x25 + 1)) fun v30 => some (.inl v30, s26)) v23 s21) fun (y32 : Int) s33 => some (.inl ((j : Int) - 1 + 1, y32), s33)) (Jx (fun x s => τ = s ∧ x.1 = ((j + 1 : Nat) : Int) - 1 ∧ x.2 = ((S1 : Nat) : Int) ∧ ∀ j' : Nat, j' < j + 1 → ¬ Wd C a b (qW j')) (Jx (fun x s => Ok (some (x, s)) fun r τ' => τ = τ' ∧ MW C a b r) fun r τ' => τ = τ' ∧ MW C a b r))) := by
      intro hE
      refine ok_ret (show Ok _ _ from ?_)
      have goOn : ¬ Wd C a b (qW j) → Ok (lb ((S : Int) + 1) fun v23 => bnd (itr FUEL (fun (x25 : Int) s26 => lod s26 9 152 x25 fun v28 => if v28 = 32 then some (.inr x25, s26) else lb (w32 (x25 + 1)) fun v30 => some (.inl v30, s26)) v23 τ) fun (y32 : Int) s33 => some (.inl ((j : Int) - 1 + 1, y32), s33)) (Jx (fun x s => τ = s ∧ x.1 = ((j + 1 : Nat) : Int) - 1 ∧ x.2 = ((S1 : Nat) : Int) ∧ ∀ j' : Nat, j' < j + 1 → ¬ Wd C a b (qW j')) (Jx (fun x s => Ok (some (x, s)) fun r τ' => τ = τ' ∧ MW C a b r) fun r τ' => τ = τ' ∧ MW C a b r)) := by
        intro nW
        rw [lb_eq, ko_bnd]
        refine for_ok L (fun i x s => τ = s ∧ x = (S : Int) + 1 + i) (by omega) ⟨rfl, by omega⟩ ?_ ?_
        · rintro i x s hi ⟨rfl, rfl⟩
          rw [lod_eq (by omega), sp i (by omega), if_neg (tw i hi).2, lb_eq, w32_sm (by omega)]
          exact ok_ret ⟨rfl, by omega⟩
        · rintro x s ⟨rfl, rfl⟩
          rw [lod_eq (by omega), sL, if_pos rfl]
          refine ok_ret (ok_ret ⟨rfl, show (j : Int) - 1 + 1 = ((j + 1 : Nat) : Int) - 1 by omega, show (S : Int) + 1 + L = ((S1 : Nat) : Int) by omega, fun j' hj' => ?_⟩)
          by_cases g : j' = j
          · rw [g]; exact nW
          · exact no j' (by omega)
      rw [w32_sm (x := a + x) (by omega), w32_sm (x := (S : Int) + 1 + x) (by omega)]
      have ex : (S : Int) + 1 + x = (S : Int) + 1 + (x.toNat : Int) := by omega
      by_cases g : a + x = b
      · rw [if_pos g, lod_eq (by omega)]
        by_cases z : τ 9 ((S : Int) + 1 + x) = 32
        · rw [if_pos z]
          have xx : x = L := by
            by_cases q : x < L
            · rw [ex, sp x.toNat (by omega)] at z
              exact absurd z (tw x.toNat (by omega)).2
            · omega
          refine ok_ret (show Jx _ _ (Sum.inr (Sum.inl ((j : Int) - 1 + 1))) τ from ok_ret ⟨rfl, Or.inl ⟨j, hj, ⟨by rw [eL]; omega, fun i hi => ?_⟩, by omega⟩⟩)
          rw [eL] at hi
          rw [hx i (by omega), sp i (by omega)]
          exact (tw i hi).1
        · rw [if_neg z, bnx_inl]
          refine goOn fun W => ?_
          have w1 := W.1
          rw [eL] at w1
          exact z (by rw [show x = (L : Int) by omega]; exact sL)
      · rw [if_neg g, bnx_inl]
        refine goOn fun W => ?_
        obtain ⟨w1, w2⟩ := W
        rw [eL] at w1 w2
        obtain ⟨g1, g2⟩ := (hE.resolve_left g)
        have xl : x < L := by omega
        have := w2 x.toNat (by omega)
        rw [show a + (x.toNat : Int) = a + x by omega] at this
        apply g2
        rw [ex, sp x.toNat (by omega), this]
        exact (tw x.toNat (by omega)).1
    rw [w32_sm (x := a + x) (by omega)]
    by_cases q : a + x < b
    · rw [if_pos q, w32_sm (x := (S : Int) + 1 + x) (by omega), lod_eq (by omega), lod_eq (by omega), h.2 (a + x) (by omega) (by omega)]
      by_cases m : τ 9 ((S : Int) + 1 + x) = C (a + x)
      · rw [if_pos m, w32_sm (by omega), lb_eq]
        have xl : x < L := by
          by_cases g : x = L
          · have l := hl (a + x) (by omega) q
            rw [← m, g, sL] at l
            exact absurd l (by decide)
          · omega
        refine ok_ret ⟨⟨rfl, by omega, by omega, by omega, fun i hi => ?_⟩, by omega⟩
        by_cases g : (i : Int) < x
        · exact hx i g
        · rw [show (i : Int) = x by omega]; exact m.symm
      · rw [if_neg m]
        exact fin (Or.inr ⟨q, m⟩)
    · rw [if_neg q]
      exact fin (Or.inl (by omega))
  · rintro ⟨x1, x2⟩ s ⟨rfl, e1, e2, no⟩
    simp only at e1 e2
    subst e1 e2
    rw [if_neg (by decide)]
    exact ok_ret (show τ = τ ∧ MW C a b (-1) from ⟨rfl, Or.inr ⟨rfl, no⟩⟩)
