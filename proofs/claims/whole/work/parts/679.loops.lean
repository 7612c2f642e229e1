/-! TEXT: lines, one by one; both sides -/
def pGs (p : Int) (line : List Tk → R2) : Nat → List Tk → List Ln → (Int × List Tk) ⊕ List Ln
  | f + 1, t :: M, ls => if t.1 = 256 then .inr ls else match pG1 p line t M ls with
    | .inl x => .inl x
    | .inr (l, M') => pGs p line f M' (ls ++ [l])
  | _, L, _ => .inl (1, L)
theorem pGs_c {p : Int} {line : List Tk → R2} {f : Nat} {t : Tk} {M : List Tk} {ls : List Ln} : pGs p line (f + 1) (t :: M) ls = if t.1 = 256 then .inr ls else match pG1 p line t M ls with
    | .inl x => .inl x
    | .inr (l, M') => pGs p line f M' (ls ++ [l]) := rfl
theorem pGs_all {p : Int} {line : List Tk → R2} {Pr : Ln → Prop} (h : ∀ M l M', line M = .inr (l, M') → Pr l) : ∀ (f : Nat) (L : List Tk) (ls ls' : List Ln), (∀ l, l ∈ ls → Pr l) → pGs p line f L ls = .inr ls' → ∀ l, l ∈ ls' → Pr l := by
  intro f
  induction f with
  | zero =>
    intro L ls ls' _ e
    cases L <;> cases e
  | succ f ih =>
    intro L ls ls' a e
    cases L with
    | nil => cases e
    | cons t M =>
      rw [pGs_c] at e
      by_cases u6 : t.1 = 256
      · rw [if_pos u6] at e; cases e; exact a
      · rw [if_neg u6] at e
        unfold pG1 at e
        by_cases g : t.1 ≠ p
        · rw [if_pos g] at e; cases e
        · rw [if_neg g] at e
          by_cases g2 : 16 ≤ ls.length
          · rw [if_pos g2] at e; cases e
          · rw [if_neg g2] at e
            have hh := h M
            generalize line M = R at *
            match R, e, hh with
            | .inl x, e, _ => cases e
            | .inr (l, M'), e, hh =>
              refine ih M' (ls ++ [l]) ls' (fun z hz => ?_) e
              rcases List.mem_append.mp hz with q | q
              · exact a z q
              · rw [List.mem_singleton.mp q]; exact hh _ _ rfl
def XGs (σ0 : St) (r : Int) (s : St) (R : (Int × List Tk) ⊕ List Ln) : Prop := match R with
  | .inl (k, L) => r = 0 ∧ Fr CX7 σ0 s ∧ s 139 7 = k ∧ CT s L ∧ GL L
  | .inr ls => r = 1 ∧ Fr CX7 σ0 s ∧ K78 σ0 s ∧ XL s ls ∧ ls.length ≤ 16
theorem pG1_in {p : Int} {line : List Tk → R2} {t : Tk} {M : List Tk} {ls : List Ln} {l : Ln} {M' : List Tk} (h : pG1 p line t M ls = .inr (l, M')) : t.1 = p ∧ ls.length < 16 ∧ line M = .inr (l, M') := by
  unfold pG1 at h
  by_cases g : t.1 ≠ p
  · rw [if_pos g] at h; cases h
  · rw [if_neg g] at h
    by_cases g2 : 16 ≤ ls.length
    · rw [if_pos g2] at h; cases h
    · rw [if_neg g2] at h
      exact ⟨Classical.not_not.mp g, by omega, h⟩
theorem x_loop {p : Int} {line : List Tk → R2} {f : St → Rs Int} {σ : St} {L : List Tk} (hlen : ∀ M l M', line M = .inr (l, M') → M'.length < M.length) (hf : ∀ s t M ls, Fr CX7 σ s → GL (t :: M) → CT s (t :: M) → XL s ls → ls.length ≤ 16 → Ok (f s) fun r s2 => XN2 s r s2 (pG1 p line t M ls) ls) (g : GL L) (ct : CT σ L) (xl : XL σ []) (len : L.length ≤ 401) : Ok (itr FUEL (fun (x15 : Int × Int) s16 => if 16 < x15.2 then some (.inr x15.1, s16) else if x15.1 = 0 then some (.inr x15.1, s16) else bnd (fX8_kind s16) fun r18 s19 => if r18 = 256 then some (.inr x15.1, s19) else bnd (f s19) fun r21 s22 => some (.inl (r21, w32 (x15.2 + 1)), s22)) (1, 0) σ) fun (r : Int) s => XGs σ r s (pGs p line L.length L []) := by
  generalize hR : pGs p line L.length L [] = R
  refine cnt_ok (fun k x s => (x.1 = 0 ∧ (∃ k' L', R = .inl (k', L') ∧ Fr CX7 σ s ∧ s 139 7 = k' ∧ CT s L' ∧ GL L') ∧ k = 0) ∨ (x.1 = 1 ∧ ∃ f ls M, GL M ∧ CT s M ∧ XL s ls ∧ Fr CX7 σ s ∧ K78 σ s ∧ x.2 = (ls.length : Int) ∧ ls.length ≤ 16 ∧ pGs p line f M ls = R ∧ M.length ≤ f ∧ k = M.length)) L.length (Or.inr ⟨rfl, L.length, [], L, g, ct, xl, Fr.rf, K78.rf, rfl, by decide, hR, Nat.le_refl _, rfl⟩) (by omega) ?_
  clear hR
  rintro k ⟨r, i⟩ s (⟨r0, ⟨k', L', eR, f1, k7, c1, g1⟩, rfl⟩ | ⟨r1, f, ls, M, gM, cM, lM, fr, k78, rfl, l16, hR, hf', rfl⟩)
  · have r0 : r = 0 := r0
    subst r0
    dsimp only
    have e0 : ∀ g : Rs ((Int × Int) ⊕ Int), (if 16 < i then (some (Sum.inr 0, s) : Rs ((Int × Int) ⊕ Int)) else if (0 : Int) = 0 then some (Sum.inr 0, s) else g) = some (Sum.inr 0, s) := fun g => by split <;> rfl
    rw [e0]
    refine ok_ret (show XGs σ 0 s R from ?_)
    rw [eR]
    exact ⟨rfl, f1, k7, c1, g1⟩
  · have r1 : r = 1 := r1
    subst r1
    dsimp only
    obtain ⟨t, M, rfl⟩ := gM.cons
    rw [List.length_cons] at hf'
    obtain ⟨f, rfl⟩ : ∃ m, f = m + 1 := ⟨f - 1, by omega⟩
    rw [pGs_c] at hR
    rw [if_neg (by omega), if_neg (by decide), x_kind cM, bnd_some]
    by_cases u6 : t.1 = 256
    · rw [if_pos u6]
      rw [if_pos u6] at hR
      refine ok_ret (show XGs σ 1 s R from ?_)
      rw [← hR]
      exact ⟨rfl, fr, k78, lM, l16⟩
    · rw [if_neg u6, ko_bnd]
      rw [if_neg u6] at hR
      refine ok_mono (hf s t M ls fr gM cM lM l16) ?_
      intro r s2 hr
      have pin := fun l M' => pG1_in (p := p) (line := line) (t := t) (M := M) (ls := ls) (l := l) (M' := M')
      generalize pG1 p line t M ls = R1 at *
      match R1, hr, pin, hR with
      | .inl (k', L'), ⟨hr, f2, k2, c2, g2⟩, _, hR =>
        have hR : (.inl (k', L') : (Int × List Tk) ⊕ List Ln) = R := hR
        exact ok_ret ⟨0, by rw [List.length_cons]; omega, Or.inl ⟨hr, ⟨k', L', hR.symm, fr.tr f2, k2, c2, g2⟩, rfl⟩⟩
      | .inr (l, M'), ⟨hr, f2, k2, c2, g2, l2⟩, pin, hR =>
        obtain ⟨_, q16, qM⟩ := pin _ _ rfl
        have qM := hlen _ _ _ qM
        have hR : pGs p line f M' (ls ++ [l]) = R := hR
        rw [w32_sm (by omega)]
        exact ok_ret ⟨M'.length, by rw [List.length_cons]; omega, Or.inr ⟨hr, f, ls ++ [l], M', g2, c2, l2, fr.tr f2, k78.tr k2, by rw [List.length_append, List.length_singleton]; show (ls.length : Int) + 1 = _; omega, by rw [List.length_append, List.length_singleton]; omega, hR, by omega, rfl⟩⟩
def MN3 (C : Int → Int) (n : Int) (τ : St) (Inv : List Ln → St → Prop) (ls : List Ln) (r : Int) (s : St) (R : R2) : Prop := match R with
  | .inl (k, L) => MB τ r s k L
  | .inr (l, M) => r = 0 ∧ ∃ X, MI C n τ X s M ∧ Inv (ls ++ [l]) X
theorem MN2.inv {C : Int → Int} {n : Int} {τ : St} {Y : Ln → St} {Inv : List Ln → St → Prop} {ls : List Ln} {r : Int} {s : St} {R : R2} (h : MN2 C n τ Y r s R) (hi : ∀ l M, R = .inr (l, M) → Inv (ls ++ [l]) (Y l)) : MN3 C n τ Inv ls r s R := by
  match R, h, hi with
  | .inl (k, L), h, _ => exact h
  | .inr (l, M), h, hi => exact ⟨h.1, _, h.2, hi _ _ rfl⟩
def MGs (τ : St) (Inv : List Ln → St → Prop) (r : Int) (s : St) (R : (Int × List Tk) ⊕ List Ln) : Prop := match R with
  | .inl (k, L) => MB τ r s k L
  | .inr ls => r = ls.length ∧ ∃ X, WX τ X ∧ Fm [] J4 X s ∧ Inv ls X
theorem m_loop {w p : Int} {line : List Tk → R2} {f : Int → St → Rs Int} {Inv : List Ln → St → Prop} {C : Int → Int} {n : Int} {τ X0 s0 : St} {L : List Tk} (hw : (0 ≤ w ∧ w ≤ 27) ∧ p = kW w) (hlen : ∀ M l M', line M = .inr (l, M') → M'.length < M.length) (hf : ∀ X s t M ls, MI C n τ X s (t :: M) → Inv ls X → t.1 = p → ls.length < 16 → Ok (f (ls.length : Int) s) fun r s2 => MN3 C n τ Inv ls r s2 (line M)) (h : MI C n τ X0 s0 L) (h0 : Inv [] X0) (len : L.length ≤ 401) : Ok (bnx (itr FUEL (fun (x1 : Int) s2 => bnd (fX12_isWord w s2) fun r4 s5 => if r4 = 0 then some (.inr (.inl x1), s5) else if x1 = 16 then bnd (fX12_errs 3 s5) fun r12 s13 => some (.inr (.inr r12), s13) else bnd (f x1 s5) fun r7 s8 => if r7 = (-1) then some (.inr (.inr (-1)), s8) else lb (w32 (x1 + 1)) fun v10 => some (.inl v10, s8)) 0 s0) fun (y15 : Int) s16 => fld s16 0 16 fun v18 => if v18 = 0 then some (y15, s16) else bnd (fX12_errs 1 s16) fun r20 s21 => some (r20, s21)) fun r s => MGs τ Inv r s (pGs p line L.length L []) := by
  obtain ⟨hw, rfl⟩ := hw
  have kb := kW_bd hw
  rw [ko_bnx]
  generalize hR : pGs (kW w) line L.length L [] = R
  refine cnt_ok (fun k x s => ∃ f ls M X, MI C n τ X s M ∧ Inv ls X ∧ x = ls.length ∧ ls.length ≤ 16 ∧ pGs (kW w) line f M ls = R ∧ M.length ≤ f ∧ k = M.length) L.length ⟨L.length, [], L, X0, h, h0, rfl, by decide, hR, Nat.le_refl _, rfl⟩ (by omega) ?_
  clear hR
  rintro k x s ⟨f', ls, M, X, hq, hI, rfl, l16, hR, hf', rfl⟩
  obtain ⟨t, M, rfl⟩ := hq.2.2.cons
  rw [List.length_cons] at hf'
  obtain ⟨f', rfl⟩ : ∃ m, f' = m + 1 := ⟨f' - 1, by omega⟩
  rw [pGs_c] at hR
  rw [m_word hq.2.2 hw, bnd_some]
  by_cases k0 : t.1 = kW w
  · rw [if_neg (show ¬ t.1 = 256 by omega)] at hR
    unfold pG1 at hR
    rw [if_neg (fun q => q k0)] at hR
    rw [if_pos k0, if_neg (by decide)]
    by_cases f16 : 16 ≤ ls.length
    · rw [if_pos (by omega)]
      rw [if_pos f16] at hR
      obtain ⟨s1, e1, h1⟩ := hq.bad (k := 3)
      rw [e1, bnd_some]
      refine ok_ret (show MGs τ Inv (-1) s1 R from ?_)
      rw [← hR]
      exact h1
    · rw [if_neg (by omega), ko_bnd]
      rw [if_neg f16] at hR
      refine ok_mono (hf X s t M ls hq hI k0 (by omega)) ?_
      intro r s2 hr
      have pin := fun l M' => hlen M l M'
      generalize line M = R1 at *
      match R1, hr, pin, hR with
      | .inl (k', L'), hr, _, hR =>
        have hR : (.inl (k', L') : (Int × List Tk) ⊕ List Ln) = R := hR
        have hr : MB τ r s2 k' L' := hr
        rw [if_pos hr.1]
        refine ok_ret (show MGs τ Inv (-1) s2 R from ?_)
        rw [← hR]
        exact ⟨rfl, hr.2⟩
      | .inr (l, M'), ⟨hr, X', hM, hI'⟩, pin, hR =>
        have qM := pin _ _ rfl
        have hR : pGs (kW w) line f' M' (ls ++ [l]) = R := hR
        rw [if_neg (by omega), w32_sm (by omega), lb_eq]
        exact ok_ret ⟨M'.length, by rw [List.length_cons]; omega, f', ls ++ [l], M', X', hM, hI', by rw [List.length_append, List.length_singleton]; omega, by rw [List.length_append, List.length_singleton]; omega, hR, by omega, rfl⟩
  · rw [if_neg k0, if_pos rfl]
    refine ok_ret (show Ok _ _ from ?_)
    rw [fld_eq]
    by_cases u6 : t.1 = 256
    · rw [if_pos u6] at hR
      rw [if_pos (hq.2.2.1.k0.mpr u6), ← hR]
      exact ok_ret ⟨rfl, X, hq.1, hq.2.1, hI⟩
    · rw [if_neg u6] at hR
      unfold pG1 at hR
      rw [if_pos k0] at hR
      obtain ⟨s1, e1, h1⟩ := hq.bad (k := 1)
      rw [if_neg (fun q => u6 (hq.2.2.1.k0.mp q)), e1, bnd_some, ← hR]
      exact ok_ret h1
