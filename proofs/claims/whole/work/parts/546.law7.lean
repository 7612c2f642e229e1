/-! the law's code: what it tells -/
theorem firstL_uniq {τ : St} {W : Int → Int} {p r r' : Int} (h : firstL τ W p r) (h' : firstL τ W p r') : r = r' := by
  rcases h with ⟨e, h⟩ | ⟨l, l1, e, l2, l3⟩
  · rcases h' with ⟨e', h'⟩ | ⟨l', m1, e', m2, m3⟩
    · rw [e, e']
    · exact absurd m2 (h l' m1)
  · rcases h' with ⟨e', h'⟩ | ⟨l', m1, e', m2, m3⟩
    · exact absurd l2 (h' l l1)
    · rcases Nat.lt_trichotomy l l' with q | q | q
      · exact absurd l2 (m3 l q)
      · rw [e, e', q]
      · exact absurd m2 (l3 l' q)
def hld (v c : Int) : Int := if v < 0 then 0 else if c < v then c else v
theorem held_eq {v c : Int} {τ : St} : fX12_held v 0 c τ = some (hld v c, τ) := by
  unfold fX12_held hld
  split
  · rfl
  · split <;> rfl
/-- what the law tells: by its first line that holds, or what is told without one -/
def lawV (τ : St) (W : Int → Int) (p d c v : Int) : Prop := ∃ r, firstL τ W p r ∧ ((r = -1 ∧ v = d) ∨ ∃ v0, 0 ≤ r ∧ vls W (τ 15) (τ 16) (τ 12 r) (τ 13 r - τ 12 r).toNat = [v0] ∧ v = hld v0 c)
theorem lawV_uniq {τ : St} {W : Int → Int} {p d c v v' : Int} (h : lawV τ W p d c v) (h' : lawV τ W p d c v') : v = v' := by
  obtain ⟨r, hr, h⟩ := h
  obtain ⟨r', hr', h'⟩ := h'
  obtain rfl := firstL_uniq hr hr'
  rcases h with ⟨e, h⟩ | ⟨v0, e, h1, h2⟩
  · rcases h' with ⟨e', h'⟩ | ⟨v0', e', h1', h2'⟩
    · rw [h, h']
    · omega
  · rcases h' with ⟨e', h'⟩ | ⟨v0', e', h1', h2'⟩
    · omega
    · rw [h1] at h1'
      rw [h2, h2', (List.cons.inj h1').1]
theorem m_law {σ τ : St} {W : Int → Int} {p d c : Int} (h : RLaw σ 17 τ) (hd : 0 ≤ d ∧ d ≤ c) (hW : ∀ a, 0 ≤ a → a ≤ 9 → τ 21 a = W a) : Ok (fX12_lawTells p d c τ) fun v τ' => Fm [22] [] τ τ' ∧ lawV τ W p d c v := by
  unfold fX12_lawTells
  rw [ko_bnd]
  refine ok_mono (m_line (p := p) h hW) ?_
  rintro r s ⟨fm, hr⟩
  obtain ⟨⟨w0, w1, w2, w3, w4, w5, w6⟩, hl, hc⟩ := h
  simp only [Nat.reduceAdd] at w0 w1 w2 w5 w6 hl hc
  rw [ko_bnd]
  by_cases e : r = -1
  · rw [ko_t e, ko_some, ko_bnd, held_eq, ko_some, ko_some]
    refine ⟨fm, r, hr, Or.inl ⟨e, ?_⟩⟩
    unfold hld
    rw [if_neg (by omega), if_neg (by omega)]
  · have hr' := hr
    rcases hr' with ⟨e', _⟩ | ⟨l, l1, rfl, l2, l3⟩
    · exact absurd e' e
    obtain ⟨_, ⟨v0, v1, v2, v3, v4, v5⟩, ⟨x, _, k1⟩, _⟩ := hl l (by omega) l1
    have e12 : s 12 = τ 12 := fm.1 12 (by decide) (by decide)
    have e13 : s 13 = τ 13 := fm.1 13 (by decide) (by decide)
    have e15 : s 15 = τ 15 := fm.1 15 (by decide) (by decide)
    have e16 : s 16 = τ 16 := fm.1 16 (by decide) (by decide)
    have e21 : s 21 = τ 21 := fm.1 21 (by decide) (by decide)
    rw [ko_f e, lod_eq (by omega), lod_eq (by omega), e12, e13, ko_bnd]
    have run := m_runs (τ := s) (W := W) (i0 := τ 12 l) (e0 := τ 13 l) (n := (τ 13 l - τ 12 l).toNat) (k := x) (by omega) (by omega) (by omega) (by rw [e15, e16]; exact k1) (by rw [e21]; exact hW)
    refine ok_mono run ?_
    rintro v s' ⟨f2, hv⟩
    rw [e15, e16] at hv
    rw [ko_some, ko_bnd, held_eq, ko_some, ko_some]
    exact ⟨fm.tr f2, _, hr, Or.inr ⟨v, by omega, hv, rfl⟩⟩
