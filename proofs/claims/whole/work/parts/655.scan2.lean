/-! TEXT: the class's tokens -/
/-- in the class's rows lie the tokens of L from its cursor on -/
def CT (σ : St) (L : List Tk) : Prop := (0 ≤ σ 145 5 ∧ σ 145 5 + L.length = σ 145 4 + 1 ∧ σ 145 4 ≤ 400) ∧ ∀ (j : Nat) (t : Tk), L[j]? = some t → σ 146 (σ 145 5 + j) = t.1 ∧ σ 148 (σ 145 5 + j) = t.2.2 ∧ (t.1 = 257 → σ 147 (σ 145 5 + j) = t.2.1)
theorem CT.fr {σ σ' : St} {S : List Nat} {L : List Tk} (h : CT σ L) (f : Fr S σ σ') (d : S.contains 145 = false ∧ S.contains 146 = false ∧ S.contains 147 = false ∧ S.contains 148 = false) : CT σ' L := by
  have d1 : 145 ∉ S := by simpa using d.1
  have d2 : 146 ∉ S := by simpa using d.2.1
  have d3 : 147 ∉ S := by simpa using d.2.2.1
  have d4 : 148 ∉ S := by simpa using d.2.2.2
  unfold CT
  rw [f 145 d1, f 146 d2, f 147 d3, f 148 d4]
  exact h
theorem scan_ok {C : Int → Int} {n : Int} {σ : St} {L : List Tk} (h : CX C n σ) (c : CC C n) (hL : TL C 0 L) : Ok (fX8_scan σ) fun _ σ' => Fr [145, 146, 147, 148] σ σ' ∧ CT σ' L := by
  have hn := c.1.2
  unfold fX8_scan
  rw [put_eq, put_eq, ko_bnd]
  refine while_ok (fun x s => Fr [145, 146, 147, 148] σ s ∧ s 145 5 = 0 ∧ 0 ≤ x.2 ∧ x.2 ≤ x.1 ∧ x.1 ≤ n ∧ ∃ D R : List Tk, L = D ++ R ∧ TL C x.1 R ∧ s 145 4 = D.length ∧ (D.length : Int) ≤ x.2 ∧ ∀ (j : Nat) (t : Tk), D[j]? = some t → s 146 j = t.1 ∧ s 148 j = t.2.2 ∧ (t.1 = 257 → s 147 j = t.2.1)) (fun x _ => (n - x.1).toNat) ⟨(Fr.rf.up (by decide)).up (by decide), rfl, Int.le_refl _, Int.le_refl _, c.1.1, [], L, rfl, hL, rfl, Int.le_refl _, fun j t e => by simp at e⟩ (by show (n - 0).toNat < _; omega) ?_
  rintro ⟨p, m⟩ s ⟨f, s5, m0, m1, p1, D, R, eL, hR, s4, Dm, hD⟩
  simp only at m0 m1 p1 hR Dm
  have fin : p = n → Ok (fld s 145 4 fun v24 => sto s 146 401 v24 256 fun s26 => fld s26 145 4 fun v27 => bnd (fX7_length s26) fun r29 s30 => sto s30 148 401 v27 r29 fun s32 => some ((0 : Int), s32)) fun _ σ' => Fr [145, 146, 147, 148] σ σ' ∧ CT σ' L := by
    intro e
    subst e
    have e4 : up s 146 (s 145 4) 256 145 4 = s 145 4 := rfl
    rw [fld_eq, sto_eq (by omega), fld_eq, e4]
    unfold fX7_length
    have e1 : up s 146 (s 145 4) 256 1 1 = p := (f.at 1 ▸ h.1 : s 1 1 = p)
    rw [fld_eq, e1, bnd_some, sto_eq (by omega)]
    refine ok_ret ⟨(f.up (by decide)).up (by decide), ?_⟩
    cases R with
    | nil => exact False.elim hR
    | cons t R' =>
      obtain ⟨z, z0, z1⟩ := hR
      have ez : z = p := by have := z0.1; have := z0.le c nBl (Int.le_refl _); omega
      subst ez
      rcases z1 with ⟨_, t1, t2, rfl⟩ | ⟨z2, _⟩
      · subst eL
        refine ⟨⟨?_, ?_, ?_⟩, fun j u hj => ?_⟩
        · show 0 ≤ s 145 5; omega
        · show s 145 5 + ((D ++ [t]).length : Int) = s 145 4 + 1
          rw [List.length_append, List.length_singleton, s4, s5]; omega
        · show s 145 4 ≤ 400; omega
        · have z5 : up (up s 146 (s 145 4) 256) 148 (s 145 4) z 145 5 = 0 := s5
          rw [z5, Int.zero_add]
          show (if 146 = 146 ∧ (j : Int) = s 145 4 then 256 else s 146 j) = u.1 ∧ (if 148 = 148 ∧ (j : Int) = s 145 4 then z else s 148 j) = u.2.2 ∧ (u.1 = 257 → s 147 j = u.2.1)
          by_cases g : j < D.length
          · rw [List.getElem?_append_left g] at hj
            rw [if_neg (by omega), if_neg (by omega)]
            exact hD j u hj
          · rw [List.getElem?_append_right (by omega)] at hj
            have hj2 : j - D.length = 0 := by
              by_cases q : j - D.length = 0
              · exact q
              · rw [List.getElem?_eq_none (by simp; omega)] at hj; cases hj
            rw [hj2] at hj
            simp at hj
            subst hj
            rw [if_pos ⟨rfl, by omega⟩, if_pos ⟨rfl, by omega⟩]
            exact ⟨t1.symm, t2.symm, fun q => by omega⟩
      · exact absurd (c.2.2 z (Int.le_refl _)) z2
  have hs := h.fr f (by decide)
  by_cases q : m < 400
  · rw [if_pos q]
    unfold fX7_length
    rw [fld_eq, hs.1, bnd_some]
    by_cases g : p < n
    · rw [if_pos g, ko_bnd]
      refine ok_mono (behind_ok hs c ⟨by omega, g⟩) ?_
      rintro e _ ⟨rfl, he⟩
      have be := he.bd c g
      rw [at_eq hs c (by omega), bnd_some, xBl_eq, bnd_some]
      by_cases bl : isBl (C p)
      · rw [if_pos bl, if_neg (by decide), w32_sm (by omega)]
        have ee : e = p + 1 := by
          unfold Ten at he
          have n1 : ¬ isDg (C p) := by unfold isBl at bl; unfold isDg; omega
          have n2 : ¬ isLt (C p) := by unfold isBl at bl; unfold isLt; omega
          rw [if_neg n1, if_neg n2] at he
          exact he
        subst ee
        refine ok_ret ⟨⟨f, s5, by show 0 ≤ m + 1; omega, by show m + 1 ≤ p + 1; omega, be.2, D, R, eL, ?_, s4, by show (D.length : Int) ≤ m + 1; omega, hD⟩, by show (n - (p + 1)).toNat < (n - p).toNat; omega⟩
        cases R with
        | nil => exact False.elim hR
        | cons t R' =>
          obtain ⟨z, z0, z1⟩ := hR
          refine ⟨z, ⟨?_, fun k k0 k1 => z0.2.1 k (by omega) k1, z0.2.2⟩, z1⟩
          have a := z0.1
          by_cases y : z = p
          · exact absurd bl (y ▸ z0.2.2)
          · omega
      · rw [if_neg bl, if_pos rfl, ko_bnd]
        refine ok_mono (note_ok hs c ⟨by omega, g⟩ he (by omega)) ?_
        rintro _ s' ⟨g1, g2, g3, g4, g5⟩
        rw [w32_sm (by omega)]
        cases R with
        | nil => exact False.elim hR
        | cons t R' =>
          obtain ⟨z, z0, z1⟩ := hR
          have ez : z = p := by
            by_cases y : p < z
            · exact absurd (z0.2.1 p (Int.le_refl _) y) bl
            · have := z0.1; omega
          subst ez
          rcases z1 with ⟨z2, _⟩ | ⟨_, e', e1, e2, e3⟩
          · have := c.2.1 z (by omega) g; omega
          · obtain rfl := e1.uniq he
            obtain ⟨k1, k2, k3⟩ := g5 t e2
            refine ok_ret ⟨⟨f.tr g1, g3.trans s5, by show 0 ≤ m + 1; omega, by show m + 1 ≤ e'; omega, be.2, D ++ [t], R', by rw [eL, List.append_assoc]; rfl, e3, ?_, ?_, fun j u hj => ?_⟩, by show (n - e').toNat < (n - z).toNat; omega⟩
            · rw [List.length_append, List.length_singleton, g2, s4]; omega
            · show ((D ++ [t]).length : Int) ≤ m + 1
              rw [List.length_append, List.length_singleton]; omega
            · by_cases y : j < D.length
              · rw [List.getElem?_append_left y] at hj
                obtain ⟨o1, o2, o3⟩ := g4 j (by omega)
                rw [o1, o2, o3]
                exact hD j u hj
              · rw [List.getElem?_append_right (by omega)] at hj
                have hj2 : j - D.length = 0 := by
                  by_cases q : j - D.length = 0
                  · exact q
                  · rw [List.getElem?_eq_none (by simp; omega)] at hj; cases hj
                rw [hj2] at hj
                simp at hj
                subst hj
                rw [show (j : Int) = s 145 4 by omega]
                exact ⟨k1, k2, k3⟩
    · rw [if_neg g]
      exact ok_ret (show Ok _ _ from fin (by omega))
  · rw [if_neg q]
    exact ok_ret (show Ok _ _ from fin (by omega))
