/-! the law's code: the line that tells -/
/-- a line of this kind, with no condition or one that is so -/
def fitL (τ : St) (W : Int → Int) (p l : Int) : Prop := τ 11 l = p ∧ (τ 13 l = τ 14 l ∨ vls W (τ 15) (τ 16) (τ 13 l) (τ 14 l - τ 13 l).toNat ≠ [0])
/-- the first such line, or none -/
def firstL (τ : St) (W : Int → Int) (p r : Int) : Prop := (r = -1 ∧ ∀ l : Nat, (l : Int) < τ 10 0 → ¬ fitL τ W p l) ∨ ∃ l : Nat, (l : Int) < τ 10 0 ∧ r = l ∧ fitL τ W p l ∧ ∀ l' : Nat, l' < l → ¬ fitL τ W p l'
theorem m_line {σ τ : St} {W : Int → Int} {p : Int} (h : RLaw σ 17 τ) (hW : ∀ a, 0 ≤ a → a ≤ 9 → τ 21 a = W a) : Ok (fX12_lineOf p τ) fun r τ' => Fm [22] [] τ τ' ∧ firstL τ W p r := by
  obtain ⟨⟨w0, w1, w2, w3, w4, w5, w6⟩, hl, hc⟩ := h
  simp only [Nat.reduceAdd] at w0 w1 w2 w5 w6 hl hc
  obtain ⟨N, hN⟩ : ∃ N : Nat, τ 10 0 = N := ⟨(τ 10 0).toNat, by omega⟩
  unfold fX12_lineOf firstL
  rw [ko_bnx]
  rw [hN]
  refine for_ok N (fun i x τ' => x = (i : Int) ∧ Fm [22] [] τ τ' ∧ ∀ l : Nat, l < i → ¬ fitL τ W p l) (by omega) ⟨rfl, Fm.rf, fun l hl => absurd hl (Nat.not_lt_zero l)⟩ ?_ ?_
  · rintro i x s hi ⟨rfl, fm, hn⟩
    have e10 : s 10 = τ 10 := fm.1 10 (by decide) (by decide)
    have e11 : s 11 = τ 11 := fm.1 11 (by decide) (by decide)
    have e13 : s 13 = τ 13 := fm.1 13 (by decide) (by decide)
    have e14 : s 14 = τ 14 := fm.1 14 (by decide) (by decide)
    have e15 : s 15 = τ 15 := fm.1 15 (by decide) (by decide)
    have e16 : s 16 = τ 16 := fm.1 16 (by decide) (by decide)
    have e21 : s 21 = τ 21 := fm.1 21 (by decide) (by decide)
    obtain ⟨_, ⟨v0, v1, v2, v3, v4, v5⟩, _, k2⟩ := hl i (by omega) (by omega)
    have next : ∀ s', Fm [22] [] τ s' → ¬ fitL τ W p i → w32 ((i : Int) + 1) = ((i + 1 : Nat) : Int) ∧ Fm [22] [] τ s' ∧ ∀ l : Nat, l < i + 1 → ¬ fitL τ W p l := fun s' f c => ⟨w32_nat (by omega), f, fun l hl => by
      by_cases e : l = i
      · rw [e]; exact c
      · exact hn l (by omega)⟩
    have l48 : (0 : Int) ≤ i ∧ (i : Int) < (48 : Nat) := by omega
    rw [lod_eq (by decide), e10, hN, ko_t (by omega), lod_eq l48, e11]
    by_cases c : τ 11 (i : Int) = p
    · rw [if_pos c, lod_eq l48, lod_eq l48, e13, e14]
      by_cases d : τ 13 (i : Int) = τ 14 i
      · rw [if_pos d, ko_some, ko_jr, ko_jl, ko_some]
        exact ⟨fm, Or.inr ⟨i, by omega, rfl, ⟨c, Or.inl d⟩, hn⟩⟩
      · rw [if_neg d, lod_eq l48, lod_eq l48, e13, e14, ko_bnd]
        have k2 := k2 (by omega)
        have run := m_runs (τ := s) (W := W) (i0 := τ 13 i) (e0 := τ 14 i) (n := (τ 14 i - τ 13 i).toNat) (k := 1) (by omega) (by omega) (by omega) (by rw [e15, e16]; exact k2) (by rw [e21]; exact hW)
        refine ok_mono run ?_
        rintro v s' ⟨f2, hv⟩
        rw [e15, e16] at hv
        by_cases z : v = 0
        · rw [ko_t z, ko_some, ko_jl]
          refine next s' (fm.tr f2) fun ⟨_, q⟩ => q.elim d fun q => q (by rw [hv, z])
        · rw [ko_f z, ko_some, ko_jr, ko_jl, ko_some]
          refine ⟨fm.tr f2, Or.inr ⟨i, by omega, rfl, ⟨c, Or.inr fun q => z ?_⟩, hn⟩⟩
          rw [hv] at q
          exact (List.cons.inj q).1
    · rw [if_neg c, ko_some, ko_jl]
      exact next s fm fun q => c q.1
  · rintro x s ⟨rfl, fm, hn⟩
    rw [ko_lod]
    refine ⟨by decide, ?_⟩
    rw [show s 10 0 = (N : Int) by rw [fm.1 10 (by decide) (by decide)]; exact hN, ko_f (Int.lt_irrefl _), ko_some, ko_jr, ko_jr]
    exact ⟨fm, Or.inl ⟨rfl, fun l hl => hn l (by omega)⟩⟩
