/-! TEXT: the lines of the law; the reference -/
def pLs : Nat → List Tk → Cd → List Ln → (Int × List Tk) ⊕ (List Ln × Cd)
  | f + 1, t :: M, acc, ls => if t.1 = 256 then .inr (ls, acc) else match pL1 t M acc ls with
    | .inl x => .inl x
    | .inr (l, M', a) => pLs f M' a (ls ++ [l])
  | _, L, _, _ => .inl (1, L)
theorem pLs_c {f : Nat} {t : Tk} {M : List Tk} {acc : Cd} {ls : List Ln} : pLs (f + 1) (t :: M) acc ls = if t.1 = 256 then .inr (ls, acc) else match pL1 t M acc ls with
    | .inl x => .inl x
    | .inr (l, M', a) => pLs f M' a (ls ++ [l]) := rfl
def ML (τ : St) (ls : List Ln) : Prop := ∀ (j : Nat) (l : Ln), ls[j]? = some l → τ 11 (32 + j) = l.1 - 260 ∧ τ 12 (32 + j) = l.2.1 ∧ τ 13 (32 + j) = l.2.2.1 ∧ τ 14 (32 + j) = l.2.2.2
/-- the lines told stay -/
def Lo32 (τ τ' : St) : Prop := ∀ i, i < 32 → τ' 11 i = τ 11 i ∧ τ' 12 i = τ 12 i ∧ τ' 13 i = τ 13 i ∧ τ' 14 i = τ 14 i
theorem Lo32.tr {τ τ1 τ2 : St} (h : Lo32 τ τ1) (h2 : Lo32 τ1 τ2) : Lo32 τ τ2 := fun i hi => by
  obtain ⟨a, b, c, d⟩ := h i hi
  obtain ⟨a2, b2, c2, d2⟩ := h2 i hi
  exact ⟨a2.trans a, b2.trans b, c2.trans c, d2.trans d⟩
theorem ML.fm {τ τ' : St} {D : List Nat} {J : List Int} {ls : List Ln} (h : ML τ ls) (f : Fm D J τ τ') (d : D.contains 11 = false ∧ D.contains 12 = false ∧ D.contains 13 = false ∧ D.contains 14 = false) : ML τ' ls := by
  have d1 : 11 ∉ D := by simpa using d.1
  have d2 : 12 ∉ D := by simpa using d.2.1
  have d3 : 13 ∉ D := by simpa using d.2.2.1
  have d4 : 14 ∉ D := by simpa using d.2.2.2
  unfold ML
  rw [f.1 11 (by decide) d1, f.1 12 (by decide) d2, f.1 13 (by decide) d3, f.1 14 (by decide) d4]
  exact h
theorem Lo32.fm {τ τ' : St} {D : List Nat} {J : List Int} (f : Fm D J τ τ') (d : D.contains 11 = false ∧ D.contains 12 = false ∧ D.contains 13 = false ∧ D.contains 14 = false) : Lo32 τ τ' := by
  have d1 : 11 ∉ D := by simpa using d.1
  have d2 : 12 ∉ D := by simpa using d.2.1
  have d3 : 13 ∉ D := by simpa using d.2.2.1
  have d4 : 14 ∉ D := by simpa using d.2.2.2
  intro i _
  rw [f.1 11 (by decide) d1, f.1 12 (by decide) d2, f.1 13 (by decide) d3, f.1 14 (by decide) d4]
  exact ⟨rfl, rfl, rfl, rfl⟩
theorem m_lineWord {C : Int → Int} {n : Int} {τ : St} {t : Tk} {L : List Tk} (h : RT C n τ (t :: L)) : fX12_isLineWord τ = some (if 260 ≤ t.1 ∧ t.1 ≤ 262 then 1 else 0, τ) := by
  have kr := h.1
  unfold fX12_isLineWord
  rw [fld_eq]
  by_cases e : τ 0 16 = 2
  · obtain ⟨a, b, c⟩ := kr.k2.2 e
    rw [if_pos e, fld_eq, isIn_eq, bnd_some]
    unfold kW at c
    by_cases g : 0 ≤ τ 0 17 ∧ τ 0 17 ≤ 2
    · rw [if_pos g, if_neg (by decide), if_pos (by split at c <;> omega)]
    · rw [if_neg g, if_pos rfl, if_neg (by split at c <;> omega)]
  · rw [if_neg e, if_neg (fun q => e (kr.k2.1.mpr q.1))]
abbrev DM : List Nat := [11, 12, 13, 14, 15, 16, 17]
abbrev JM : List Int := [14, 15, 16, 17, 27, 28, 30, 31, 32]
def MN (τ : St) (r : Int) (s : St) (R : (Int × List Tk) ⊕ (List Ln × Cd)) : Prop := match R with
  | .inl (k, L) => r = -1 ∧ Fm DM JM τ s ∧ LoC τ s ∧ Lo32 τ s ∧ s 0 31 = k ∧ ∃ t M, L = t :: M ∧ s 0 32 = t.2.2
  | .inr (ls, a) => r = ls.length ∧ Fm DM JM τ s ∧ LoC τ s ∧ Lo32 τ s ∧ MC s a ∧ ML s ls
/-- a store into one of the rows of lines -/
theorem row_st {τ : St} {k : Nat} {i v : Int} {ls : List Ln} (hk : k = 11 ∨ k = 12 ∨ k = 13 ∨ k = 14) (hi : i = 32 + (ls.length : Int)) (h : ML τ ls) : Fm DM JM τ (up τ k i v) ∧ Lo32 τ (up τ k i v) ∧ ML (up τ k i v) ls := by
  refine ⟨Fm.rf.up (by omega) (by rcases hk with rfl | rfl | rfl | rfl <;> decide), fun j hj => ?_, fun j l hl => ?_⟩
  · simp only [up_g]
    refine ⟨?_, ?_, ?_, ?_⟩ <;> rw [if_neg (by omega)]
  · have lt : j < ls.length := by
      by_cases g : j < ls.length
      · exact g
      · rw [List.getElem?_eq_none (by omega)] at hl; cases hl
    simp only [up_g]
    obtain ⟨a, b, c, d⟩ := h j l hl
    refine ⟨?_, ?_, ?_, ?_⟩ <;> rw [if_neg (by omega)] <;> assumption
