/-! TEXT: lines; one token that must come -/
abbrev Ln := Int × Int × Int × Int
def XL (σ : St) (ls : List Ln) : Prop := σ 140 0 = 4 ∧ σ 140 2 = ls.length ∧ ∀ (j : Nat) (l : Ln), ls[j]? = some l → σ 141 ((j : Int) * 4) = l.1 ∧ σ 141 ((j : Int) * 4 + 1) = l.2.1 ∧ σ 141 ((j : Int) * 4 + 2) = l.2.2.1 ∧ σ 141 ((j : Int) * 4 + 3) = l.2.2.2
theorem XL.fr {σ σ' : St} {D : List Nat} {ls : List Ln} (h : XL σ ls) (f : Fr D σ σ') (d : D.contains 140 = false ∧ D.contains 141 = false) : XL σ' ls := by
  have d1 : 140 ∉ D := by simpa using d.1
  have d2 : 141 ∉ D := by simpa using d.2
  unfold XL
  rw [f 140 d1, f 141 d2]
  exact h
theorem x_addLine {σ : St} {ls : List Ln} {a b c d : Int} (h : XL σ ls) (hl : ls.length < 16) : ∃ r σ', fX6_add_ 140 141 64 a b c d 0 σ = some (r, σ') ∧ r ≠ -1 ∧ Fr [140, 141] σ σ' ∧ XL σ' (ls ++ [(a, b, c, d)]) := by
  obtain ⟨h0, h1, h2⟩ := h
  rw [row_add (w := 4) (by decide) h0 (by omega) (by omega) (by omega) (by omega) (by omega) (by omega), if_neg (by omega)]
  refine ⟨_, _, rfl, by omega, fun k hk => ?_, ?_, ?_, fun j l hj => ?_⟩
  · have k1 : k ≠ 141 := fun e => hk (by rw [e]; decide)
    have k0 : k ≠ 140 := fun e => hk (by rw [e]; decide)
    unfold rput
    rw [cup_ne k1, cup_ne k1, cup_ne k1, cup_ne k1, cup_ne k1, up_ne k0]
  · unfold rput
    rw [cup_ne (by decide), cup_ne (by decide), cup_ne (by decide), cup_ne (by decide), cup_ne (by decide), up_at, if_neg (by decide)]
    exact h0
  · unfold rput
    rw [cup_ne (by decide), cup_ne (by decide), cup_ne (by decide), cup_ne (by decide), cup_ne (by decide), up_at, if_pos rfl, List.length_append, List.length_singleton]
    omega
  · unfold rput
    rw [cup_f (by decide), cup_t (by decide), cup_t (by decide), cup_t (by decide), cup_t (by decide)]
    simp only [up_g, true_and, Nat.reduceEqDiff, false_and, if_false]
    rcases snoc_at hj with ⟨g, e⟩ | ⟨g, rfl⟩
    · rw [if_neg (by omega), if_neg (by omega), if_neg (by omega), if_neg (by omega), if_neg (by omega), if_neg (by omega), if_neg (by omega), if_neg (by omega), if_neg (by omega), if_neg (by omega), if_neg (by omega), if_neg (by omega), if_neg (by omega), if_neg (by omega), if_neg (by omega), if_neg (by omega)]
      exact h2 j l e
    · refine ⟨?_, ?_, ?_, ?_⟩ <;> (repeat (first | rw [if_pos (by omega)] | rw [if_neg (by omega)]))
theorem x_begin {σ : St} {t : Tk} {M : List Tk} {ls : List Ln} {p : Int} (g : GL (t :: M)) (ct : CT σ (t :: M)) (xl : XL σ ls) (hl : ls.length ≤ 16) (hp : p ≠ 256) : Ok (fX5_beginLine p σ) fun r s => (t.1 = p ∧ ls.length < 16 ∧ r = 1 ∧ Fr [145] σ s ∧ CT s M ∧ GL M) ∨ (¬ (t.1 = p ∧ ls.length < 16) ∧ r = 0 ∧ s = up σ 139 7 (if t.1 = p then 3 else 1)) := by
  obtain ⟨h0, h1, _⟩ := xl
  unfold fX5_beginLine
  rw [x_kind ct, bnd_some]
  by_cases e : t.1 = p
  · rw [if_pos e]
    unfold fX6_isFull
    rw [fld_eq, fld_eq, h0, h1, w32_sm (x := (ls.length : Int) + 1) (by omega), w32_sm (by omega)]
    by_cases f : ls.length < 16
    · rw [if_neg (by omega), bnd_some, if_pos rfl]
      obtain ⟨s1, e1, f1, c1⟩ := x_adv ct (g.tl (by omega))
      rw [e1, bnd_some]
      exact ok_ret (Or.inl ⟨e, f, rfl, f1, c1, g.tl (by omega)⟩)
    · rw [if_pos (by omega), bnd_some, if_neg (by decide), x_refuse, bnd_some]
      exact ok_ret (Or.inr ⟨fun q => f q.2, rfl, by rw [if_pos e]⟩)
  · rw [if_neg e, x_refuse, bnd_some]
    exact ok_ret (Or.inr ⟨fun q => e q.1, rfl, by rw [if_neg e]⟩)
theorem x_take {σ : St} {t : Tk} {M : List Tk} {p : Int} (g : GL (t :: M)) (ct : CT σ (t :: M)) (hp : p ≠ 256) : Ok (fX5_take p σ) fun r s => (t.1 = p ∧ r = 1 ∧ Fr [145] σ s ∧ CT s M ∧ GL M) ∨ (t.1 ≠ p ∧ r = 0 ∧ s = up σ 139 7 1) := by
  unfold fX5_take
  rw [x_kind ct, bnd_some]
  by_cases e : t.1 = p
  · rw [if_pos e]
    obtain ⟨s1, e1, f1, c1⟩ := x_adv ct (g.tl (by omega))
    rw [e1, bnd_some]
    exact ok_ret (Or.inl ⟨e, rfl, f1, c1, g.tl (by omega)⟩)
  · rw [if_neg e, x_refuse, bnd_some]
    exact ok_ret (Or.inr ⟨e, rfl, rfl⟩)
/-- what is wrong with a number -/
def nft (t : Tk) (l h x : Int) : Int := if t.1 = 257 then (if l ≤ t.2.1 ∧ t.2.1 ≤ h ∧ t.2.1 ≠ x then 0 else 2) else 1
theorem x_takeN {σ : St} {t : Tk} {M : List Tk} {l h x : Int} (g : GL (t :: M)) (ct : CT σ (t :: M)) : Ok (fX5_takeNumber l h x σ) fun r s => (nft t l h x = 0 ∧ r = t.2.1 ∧ Fr [145] σ s ∧ CT s M ∧ GL M) ∨ (nft t l h x ≠ 0 ∧ r = -1 ∧ s = up σ 139 7 (nft t l h x)) := by
  obtain ⟨v, hv, h7⟩ := x_num ct
  unfold fX5_takeNumber
  rw [hv, bnd_some, x_within, bnd_some]
  have e1 : (if (if l ≤ v ∧ v ≤ h then (1 : Int) else 0) = 0 then some ((0 : Int), σ) else if v = x then some (0, σ) else some (1, σ)) = some (if l ≤ v ∧ v ≤ h ∧ v ≠ x then 1 else 0, σ) := by
    by_cases a : l ≤ v ∧ v ≤ h
    · rw [if_pos a, if_neg (by decide)]
      by_cases b : v = x
      · rw [if_pos b, if_neg (fun q => q.2.2 b)]
      · rw [if_neg b, if_pos ⟨a.1, a.2, b⟩]
    · rw [if_neg a, if_pos rfl, if_neg (fun q => a ⟨q.1, q.2.1⟩)]
  rw [e1, bnd_some, x_kind ct, bnd_some]
  unfold nft
  by_cases k : t.1 = 257
  · have vv := h7 k
    rw [if_pos k, if_pos k, vv]
    by_cases a : l ≤ t.2.1 ∧ t.2.1 ≤ h ∧ t.2.1 ≠ x
    · rw [if_pos a, if_neg (by decide), if_pos a]
      obtain ⟨s1, e2, f1, c1⟩ := x_adv ct (g.tl (by omega))
      rw [e2, bnd_some, bnx_inr]
      exact ok_ret (Or.inl ⟨rfl, rfl, f1, c1, g.tl (by omega)⟩)
    · rw [if_neg a, if_pos rfl, bnx_inl, x_kind ct, bnd_some, if_pos k, bnd_some, x_refuse, bnd_some, if_neg a]
      exact ok_ret (Or.inr ⟨by decide, rfl, rfl⟩)
  · rw [if_neg k, bnx_inl, x_kind ct, bnd_some, if_neg k, bnd_some, x_refuse, bnd_some, if_neg k]
    exact ok_ret (Or.inr ⟨by decide, rfl, rfl⟩)
theorem m_mark {C : Int → Int} {n : Int} {τ : St} {t : Tk} {M : List Tk} {p : Int} (c : CC C n) (e : ME C n τ) (h : RT C n τ (t :: M)) (hp : isMk p) : Ok (fX12_readMark p τ) fun r s => (t.1 = p ∧ r = 0 ∧ Fm [] [14, 15, 16, 17] τ s ∧ RT C n s M) ∨ (t.1 ≠ p ∧ r = -1 ∧ Fm [] [31, 32] τ s ∧ s 0 31 = 1 ∧ s 0 32 = t.2.2) := by
  have hp' : p ≤ 62 := by unfold isMk at hp; omega
  unfold fX12_readMark
  rw [m_sign h hp, bnd_some]
  by_cases k : t.1 = p
  · rw [if_pos k, if_neg (by decide), ko_bnd]
    refine ok_mono (m_reads e.1 c e.2 h (by omega)) ?_
    rintro _ s ⟨f, r⟩
    exact ok_ret (Or.inl ⟨k, rfl, f, r⟩)
  · obtain ⟨s, e1, f1, a, b⟩ := m_errs (k := 1) h
    rw [if_neg k, if_pos rfl, e1, bnd_some]
    exact ok_ret (Or.inr ⟨k, rfl, f1, a, b⟩)
theorem m_num {C : Int → Int} {n : Int} {τ : St} {t : Tk} {M : List Tk} {lo hi : Int} (c : CC C n) (e : ME C n τ) (h : RT C n τ (t :: M)) : Ok (fX12_readNumber lo hi τ) fun r s => (nft t lo hi (-1) = 0 ∧ r = t.2.1 ∧ 0 ≤ r ∧ r ≤ 9999 ∧ Fm [] [14, 15, 16, 17] τ s ∧ RT C n s M) ∨ (nft t lo hi (-1) ≠ 0 ∧ r = -1 ∧ Fm [] [31, 32] τ s ∧ s 0 31 = nft t lo hi (-1) ∧ s 0 32 = t.2.2) := by
  have kr := h.1
  unfold fX12_readNumber nft
  rw [fld_eq]
  by_cases k : τ 0 16 = 3
  · have t7 := kr.k3.1.mp k
    obtain ⟨w, w0, w1⟩ := kr.k3.2 t7
    rw [if_pos k, fld_eq, isIn_eq, bnd_some, w, if_pos t7]
    rw [w] at w0 w1
    by_cases g : lo ≤ t.2.1 ∧ t.2.1 ≤ hi
    · rw [if_pos g, if_neg (by decide), fld_eq, w, ko_bnd, if_pos ⟨g.1, g.2, by omega⟩]
      refine ok_mono (m_reads e.1 c e.2 h (by omega)) ?_
      rintro _ s ⟨f, r⟩
      exact ok_ret (Or.inl ⟨rfl, rfl, w0, w1, f, r⟩)
    · obtain ⟨s, e1, f1, a, b⟩ := m_errs (k := 2) h
      rw [if_neg g, if_pos rfl, e1, bnd_some, if_neg (fun q => g ⟨q.1, q.2.1⟩)]
      exact ok_ret (Or.inr ⟨by decide, rfl, f1, a, b⟩)
  · obtain ⟨s, e1, f1, a, b⟩ := m_errs (k := 1) h
    have t7 : t.1 ≠ 257 := fun q => k (kr.k3.1.mpr q)
    rw [if_neg k, e1, bnd_some, if_neg t7]
    exact ok_ret (Or.inr ⟨by decide, rfl, f1, a, b⟩)
