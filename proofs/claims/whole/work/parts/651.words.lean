/-! TEXT: words -/
/-- the text from a to b is the class's word w -/
def Wd (C : Int → Int) (a b : Int) (w : Nat) : Prop := b - a = (strL.getD w 0 : Int) ∧ ∀ i : Nat, i < strL.getD w 0 → C (a + i) = (strW.getD w []).getD i 0
theorem i2c_and : ∀ m : Nat, m < 256 → i2c (iand (m : Int) 255) = (m : Int) := by decide +kernel
theorem ishr_0 : ∀ m : Nat, m < 8 → ishr (m : Int) 0 = (m : Int) := by decide +kernel
theorem len_eq {w : Nat} {σ : St} (hw : w < 28) : fJ0_length_8abf5 w σ = some ((strL.getD w 0 : Int), σ) := by
  unfold fJ0_length_8abf5 fJ0_coder_7d493
  rw [if_neg (by decide), bnd_some]
  refine congrArg some (Prod.ext ?_ rfl)
  exact ishr_0 _ (by have := strL_bd w hw; omega)
theorem charAt_eq {w : Nat} {i : Int} {σ : St} (hw : w < 28) (hi : 0 ≤ i ∧ i < (strL.getD w 0 : Int)) : fJ0_charAt_5068e w i σ = some ((strW.getD w []).getD i.toNat 0, σ) := by
  unfold fJ0_charAt_5068e fJ0_isLatin1_aae02
  rw [if_neg (by decide), if_pos rfl, bnd_some, if_neg (by decide)]
  unfold fJ1_charAt_3b067 fJ0_checkIndex_df160 fJ3_checkIndex_8e157
  rw [if_neg (by omega), if_pos hi.2, bnx_inr, bnd_some, bnd_some]
  unfold lsc
  rw [if_pos hi, bnd_some]
  have b := strC_bd w hw i.toNat (by omega)
  refine congrArg some (Prod.ext ?_ rfl)
  have e := i2c_and ((strW.getD w []).getD i.toNat 0).toNat (by omega)
  rw [Int.toNat_of_nonneg b.1] at e
  exact e
theorem spells_ok {C : Int → Int} {n a b : Int} {w : Nat} {σ : St} (h : CX C n σ) (c : CC C n) (hw : w < 28) (ha : 0 ≤ a ∧ a ≤ b ∧ b ≤ n) : Ok (fX8_spells a b w σ) fun r σ' => σ = σ' ∧ ((r = 1 ∧ Wd C a b w) ∨ (r = 0 ∧ ¬ Wd C a b w)) := by
  have hn := c.1.2
  have hl := strL_bd w hw
  unfold fX8_spells
  rw [len_eq hw, bnd_some, w32_sm (by omega)]
  by_cases e : b - a = (strL.getD w 0 : Int)
  · rw [if_pos e, ko_bnx]
    refine while_ok (fun x s => σ = s ∧ 0 ≤ x ∧ x ≤ (strL.getD w 0 : Int) ∧ ∀ i : Nat, (i : Int) < x → C (a + i) = (strW.getD w []).getD i 0) (fun x _ => ((strL.getD w 0 : Int) - x).toNat) ⟨rfl, Int.le_refl _, by omega, fun k _ => by omega⟩ (by omega) ?_
    rintro x s ⟨rfl, x0, x1, hx⟩
    rw [len_eq hw, bnd_some]
    by_cases q : x < (strL.getD w 0 : Int)
    · rw [if_pos q, w32_sm (by omega), at_eq h c (by omega), bnd_some, charAt_eq hw ⟨x0, q⟩, bnd_some]
      by_cases m : C (a + x) = (strW.getD w []).getD x.toNat 0
      · rw [if_pos m]
        refine ok_ret ⟨⟨rfl, ?_, ?_, ?_⟩, ?_⟩ <;> rw [w32_sm (by omega)]
        · omega
        · omega
        · intro i hi
          by_cases g : (i : Int) < x
          · exact hx i g
          · have : x.toNat = i := by omega
            rw [this] at m
            rw [← m, show a + (i : Int) = a + x by omega]
        · omega
      · rw [if_neg m]
        refine ok_ret (ok_ret ⟨rfl, Or.inr ⟨rfl, fun W => m ?_⟩⟩)
        have := W.2 x.toNat (by omega)
        rw [← this, show a + (x.toNat : Int) = a + x by omega]
    · rw [if_neg q]
      exact ok_ret (show σ = σ ∧ _ from ⟨rfl, Or.inl ⟨rfl, e, fun i hi => hx i (by omega)⟩⟩)
  · rw [if_neg e]
    exact ok_ret ⟨rfl, Or.inr ⟨rfl, fun W => e W.1⟩⟩
theorem sp_go {C : Int → Int} {n a b : Int} {w : Nat} {σ : St} {β : Type} {f g : St → Rs β} {P : β → St → Prop} (h : CX C n σ) (c : CC C n) (hw : w < 28) (ha : 0 ≤ a ∧ a ≤ b ∧ b ≤ n) (h1 : Wd C a b w → Ok (g σ) P) (h0 : ¬ Wd C a b w → Ok (f σ) P) : Ok (bnd (fX8_spells a b w σ) fun r s => if r = 0 then f s else g s) P := by
  rw [ko_bnd]
  refine ok_mono (spells_ok h c hw ha) ?_
  rintro r s ⟨rfl, ⟨rfl, W⟩ | ⟨rfl, W⟩⟩
  · rw [if_neg (by decide)]; exact h1 W
  · rw [if_pos rfl]; exact h0 W
/-- the class's number for its word w -/
def cw (w : Nat) : Int := if w ≤ 6 then 260 + (w : Int) else if w ≤ 17 then 273 + (w : Int) else 252 + (w : Int)
def WK (C : Int → Int) (a b k : Int) : Prop := (∃ w, w < 28 ∧ Wd C a b w ∧ k = cw w) ∨ (k = 258 ∧ ∀ w, w < 28 → ¬ Wd C a b w)
theorem noun_ok {C : Int → Int} {n a b : Int} {σ : St} (h : CX C n σ) (c : CC C n) (ha : 0 ≤ a ∧ a ≤ b ∧ b ≤ n) (no : ∀ w, w < 18 → ¬ Wd C a b w) : Ok (fX8_nounOf a b σ) fun r σ' => σ = σ' ∧ WK C a b r := by
  unfold fX8_nounOf
  refine sp_go h c (by decide) ha (fun W => ok_ret ⟨rfl, Or.inl ⟨18, by decide, W, by decide⟩⟩) fun g18 => ?_
  refine sp_go h c (by decide) ha (fun W => ok_ret ⟨rfl, Or.inl ⟨19, by decide, W, by decide⟩⟩) fun g19 => ?_
  refine sp_go h c (by decide) ha (fun W => ok_ret ⟨rfl, Or.inl ⟨20, by decide, W, by decide⟩⟩) fun g20 => ?_
  refine sp_go h c (by decide) ha (fun W => ok_ret ⟨rfl, Or.inl ⟨21, by decide, W, by decide⟩⟩) fun g21 => ?_
  refine sp_go h c (by decide) ha (fun W => ok_ret ⟨rfl, Or.inl ⟨22, by decide, W, by decide⟩⟩) fun g22 => ?_
  refine sp_go h c (by decide) ha (fun W => ok_ret ⟨rfl, Or.inl ⟨23, by decide, W, by decide⟩⟩) fun g23 => ?_
  refine sp_go h c (by decide) ha (fun W => ok_ret ⟨rfl, Or.inl ⟨24, by decide, W, by decide⟩⟩) fun g24 => ?_
  refine sp_go h c (by decide) ha (fun W => ok_ret ⟨rfl, Or.inl ⟨25, by decide, W, by decide⟩⟩) fun g25 => ?_
  refine sp_go h c (by decide) ha (fun W => ok_ret ⟨rfl, Or.inl ⟨26, by decide, W, by decide⟩⟩) fun g26 => ?_
  refine sp_go h c (by decide) ha (fun W => ok_ret ⟨rfl, Or.inl ⟨27, by decide, W, by decide⟩⟩) fun g27 => ?_
  refine ok_ret ⟨rfl, Or.inr ⟨rfl, fun w hw W => ?_⟩⟩
  by_cases e : w < 18
  · exact no w e W
  · obtain (rfl | rfl | rfl | rfl | rfl | rfl | rfl | rfl | rfl | rfl) : w = 18 ∨ w = 19 ∨ w = 20 ∨ w = 21 ∨ w = 22 ∨ w = 23 ∨ w = 24 ∨ w = 25 ∨ w = 26 ∨ w = 27 := by omega
    · exact g18 W
    · exact g19 W
    · exact g20 W
    · exact g21 W
    · exact g22 W
    · exact g23 W
    · exact g24 W
    · exact g25 W
    · exact g26 W
    · exact g27 W
theorem wordOf_ok {C : Int → Int} {n a b : Int} {σ : St} (h : CX C n σ) (c : CC C n) (ha : 0 ≤ a ∧ a ≤ b ∧ b ≤ n) : Ok (fX8_wordOf a b σ) fun r σ' => σ = σ' ∧ WK C a b r := by
  unfold fX8_wordOf
  refine sp_go h c (by decide) ha (fun W => ok_ret ⟨rfl, Or.inl ⟨0, by decide, W, by decide⟩⟩) fun g0 => ?_
  refine sp_go h c (by decide) ha (fun W => ok_ret ⟨rfl, Or.inl ⟨1, by decide, W, by decide⟩⟩) fun g1 => ?_
  refine sp_go h c (by decide) ha (fun W => ok_ret ⟨rfl, Or.inl ⟨2, by decide, W, by decide⟩⟩) fun g2 => ?_
  refine sp_go h c (by decide) ha (fun W => ok_ret ⟨rfl, Or.inl ⟨3, by decide, W, by decide⟩⟩) fun g3 => ?_
  refine sp_go h c (by decide) ha (fun W => ok_ret ⟨rfl, Or.inl ⟨4, by decide, W, by decide⟩⟩) fun g4 => ?_
  refine sp_go h c (by decide) ha (fun W => ok_ret ⟨rfl, Or.inl ⟨5, by decide, W, by decide⟩⟩) fun g5 => ?_
  refine sp_go h c (by decide) ha (fun W => ok_ret ⟨rfl, Or.inl ⟨6, by decide, W, by decide⟩⟩) fun g6 => ?_
  refine sp_go h c (by decide) ha (fun W => ok_ret ⟨rfl, Or.inl ⟨7, by decide, W, by decide⟩⟩) fun g7 => ?_
  refine sp_go h c (by decide) ha (fun W => ok_ret ⟨rfl, Or.inl ⟨8, by decide, W, by decide⟩⟩) fun g8 => ?_
  refine sp_go h c (by decide) ha (fun W => ok_ret ⟨rfl, Or.inl ⟨9, by decide, W, by decide⟩⟩) fun g9 => ?_
  refine sp_go h c (by decide) ha (fun W => ok_ret ⟨rfl, Or.inl ⟨10, by decide, W, by decide⟩⟩) fun g10 => ?_
  refine sp_go h c (by decide) ha (fun W => ok_ret ⟨rfl, Or.inl ⟨11, by decide, W, by decide⟩⟩) fun g11 => ?_
  refine sp_go h c (by decide) ha (fun W => ok_ret ⟨rfl, Or.inl ⟨12, by decide, W, by decide⟩⟩) fun g12 => ?_
  refine sp_go h c (by decide) ha (fun W => ok_ret ⟨rfl, Or.inl ⟨13, by decide, W, by decide⟩⟩) fun g13 => ?_
  refine sp_go h c (by decide) ha (fun W => ok_ret ⟨rfl, Or.inl ⟨14, by decide, W, by decide⟩⟩) fun g14 => ?_
  refine sp_go h c (by decide) ha (fun W => ok_ret ⟨rfl, Or.inl ⟨15, by decide, W, by decide⟩⟩) fun g15 => ?_
  refine sp_go h c (by decide) ha (fun W => ok_ret ⟨rfl, Or.inl ⟨16, by decide, W, by decide⟩⟩) fun g16 => ?_
  refine sp_go h c (by decide) ha (fun W => ok_ret ⟨rfl, Or.inl ⟨17, by decide, W, by decide⟩⟩) fun g17 => ?_
  rw [ko_bnd]
  refine ok_mono (noun_ok h c ha fun w hw W => ?_) fun r s x => ok_ret x
  obtain (rfl | rfl | rfl | rfl | rfl | rfl | rfl | rfl | rfl | rfl | rfl | rfl | rfl | rfl | rfl | rfl | rfl | rfl) : w = 0 ∨ w = 1 ∨ w = 2 ∨ w = 3 ∨ w = 4 ∨ w = 5 ∨ w = 6 ∨ w = 7 ∨ w = 8 ∨ w = 9 ∨ w = 10 ∨ w = 11 ∨ w = 12 ∨ w = 13 ∨ w = 14 ∨ w = 15 ∨ w = 16 ∨ w = 17 := by omega
  · exact g0 W
  · exact g1 W
  · exact g2 W
  · exact g3 W
  · exact g4 W
  · exact g5 W
  · exact g6 W
  · exact g7 W
  · exact g8 W
  · exact g9 W
  · exact g10 W
  · exact g11 W
  · exact g12 W
  · exact g13 W
  · exact g14 W
  · exact g15 W
  · exact g16 W
  · exact g17 W
