/-! TEXT: the lines of the law; the class -/
def XLs (σ0 : St) (r : Int) (s : St) (R : (Int × List Tk) ⊕ (List Ln × Cd)) : Prop := match R with
  | .inl (k, L) => r = 0 ∧ Fr CX7 σ0 s ∧ s 139 7 = k ∧ CT s L ∧ GL L
  | .inr (ls, a) => r = 1 ∧ Fr CX7 σ0 s ∧ K78 σ0 s ∧ XC s a ∧ XL s ls ∧ ls.length ≤ 16 ∧ a.length ≤ 400
theorem pL1_in {t : Tk} {M : List Tk} {acc : Cd} {ls : List Ln} {l : Ln} {M' : List Tk} {a : Cd} (h : pL1 t M acc ls = .inr (l, M', a)) : ls.length < 16 ∧ M'.length ≤ M.length := by
  unfold pL1 at h
  by_cases w : 260 ≤ t.1 ∧ t.1 ≤ 262
  · rw [if_neg (fun q => q w)] at h
    by_cases f : 16 ≤ ls.length
    · rw [if_pos f] at h; cases h
    · rw [if_neg f] at h
      refine ⟨by omega, ?_⟩
      unfold pLn at h
      have pin := pS_in _ M (Nat.le_refl _) (-1) (-1) acc
      generalize pS M (-1) (-1) acc = R1 at *
      match R1, h, pin with
      | .inl x, h, _ => cases h
      | .inr (L1, a1), h, pin =>
        obtain ⟨⟨u, M1, rfl⟩, lbq, lt⟩ := pin _ _ rfl
        rw [List.length_cons] at lt
        have h : lnE t.1 acc.length a1.length (cnd u M1 a1) = .inr (l, M', a) := h
        have cl : ∀ L' a', cnd u M1 a1 = .inr (L', a') → L'.length ≤ M1.length + 1 := by
          intro L' a' hc
          unfold cnd at hc
          split at hc
          · have := pC_len _ _ _ _ _ _ _ hc; omega
          · cases hc; rw [List.length_cons]; exact Nat.le_refl _
        generalize cnd u M1 a1 = R2 at *
        match R2, h, cl with
        | .inl x, h, _ => cases h
        | .inr ([], _), h, _ => cases h
        | .inr (v :: M2, a2), h, cl =>
          have := cl _ _ rfl
          rw [List.length_cons] at this
          have h : (if v.1 = 59 then .inr ((t.1, (acc.length : Int), (a1.length : Int), (a2.length : Int)), M2, a2) else .inl (1, v :: M2) : Rl3) = .inr (l, M', a) := h
          by_cases m : v.1 = 59
          · rw [if_pos m] at h; cases h; omega
          · rw [if_neg m] at h; cases h
  · rw [if_pos w] at h; cases h
theorem x_lines {σ : St} {L : List Tk} {acc : Cd} (g : GL L) (ct : CT σ L) (xc : XC σ acc) (xl : XL σ []) (len : acc.length + L.length ≤ 401) : Ok (itr FUEL (fun (x15 : Int × Int) s16 => if 16 < x15.2 then some (.inr x15.1, s16) else if x15.1 = 0 then some (.inr x15.1, s16) else bnd (fX8_kind s16) fun r18 s19 => if r18 = 256 then some (.inr x15.1, s19) else bnd (fX5_readLawLine s19) fun r21 s22 => some (.inl (r21, w32 (x15.2 + 1)), s22)) (1, 0) σ) fun (r : Int) s => XLs σ r s (pLs L.length L acc []) := by
  generalize hR : pLs L.length L acc [] = R
  refine cnt_ok (fun k x s => (x.1 = 0 ∧ (∃ k' L', R = .inl (k', L') ∧ Fr CX7 σ s ∧ s 139 7 = k' ∧ CT s L' ∧ GL L') ∧ k = 0) ∨ (x.1 = 1 ∧ ∃ f ls M a, GL M ∧ CT s M ∧ XC s a ∧ XL s ls ∧ Fr CX7 σ s ∧ K78 σ s ∧ x.2 = (ls.length : Int) ∧ ls.length ≤ 16 ∧ a.length + M.length ≤ 401 ∧ pLs f M a ls = R ∧ M.length ≤ f ∧ k = M.length)) L.length (Or.inr ⟨rfl, L.length, [], L, acc, g, ct, xc, xl, Fr.rf, K78.rf, rfl, by decide, len, hR, Nat.le_refl _, rfl⟩) (by omega) ?_
  clear hR
  rintro k ⟨r, i⟩ s (⟨r0, ⟨k', L', eR, f1, k7, c1, g1⟩, rfl⟩ | ⟨r1, f, ls, M, a, gM, cM, xM, lM, fr, k78, rfl, l16, ln, hR, hf, rfl⟩)
  · have r0 : r = 0 := r0
    subst r0
    dsimp only
    rw [show (if 16 < i then (some (Sum.inr 0, s) : Rs ((Int × Int) ⊕ Int)) else if (0 : Int) = 0 then some (Sum.inr 0, s) else bnd (fX8_kind s) fun r18 s19 => if r18 = 256 then some (.inr 0, s19) else bnd (fX5_readLawLine s19) fun r21 s22 => some (.inl (r21, w32 (i + 1)), s22)) = some (Sum.inr 0, s) by split <;> rfl]
    refine ok_ret (show XLs σ 0 s R from ?_)
    rw [eR]
    exact ⟨rfl, f1, k7, c1, g1⟩
  · have r1 : r = 1 := r1
    subst r1
    dsimp only
    obtain ⟨t, M, rfl⟩ := gM.cons
    rw [List.length_cons] at hf ln
    obtain ⟨f, rfl⟩ : ∃ m, f = m + 1 := ⟨f - 1, by omega⟩
    rw [pLs_c] at hR
    rw [if_neg (by omega), if_neg (by decide), x_kind cM, bnd_some]
    by_cases u6 : t.1 = 256
    · rw [if_pos u6]
      rw [if_pos u6] at hR
      refine ok_ret (show XLs σ 1 s R from ?_)
      rw [← hR]
      exact ⟨rfl, fr, k78, xM, lM, l16, by omega⟩
    · rw [if_neg u6, ko_bnd]
      rw [if_neg u6] at hR
      refine ok_mono (x_line gM cM xM lM l16 (by omega)) ?_
      intro r s2 hr
      have pin := fun l M' a' => pL1_in (t := t) (M := M) (acc := a) (ls := ls) (l := l) (M' := M') (a := a')
      generalize pL1 t M a ls = R1 at *
      match R1, hr, pin, hR with
      | .inl (k', L'), ⟨hr, f2, k2, c2, g2⟩, _, hR =>
        have hR : (.inl (k', L') : (Int × List Tk) ⊕ (List Ln × Cd)) = R := hR
        exact ok_ret ⟨0, by rw [List.length_cons]; omega, Or.inl ⟨hr, ⟨k', L', hR.symm, fr.tr f2, k2, c2, g2⟩, rfl⟩⟩
      | .inr (l, M', a'), ⟨hr, f2, k2, c2, g2, x2, l2, n2⟩, pin, hR =>
        obtain ⟨q16, qM⟩ := pin _ _ _ rfl
        have hR : pLs f M' a' (ls ++ [l]) = R := hR
        rw [w32_sm (by omega)]
        exact ok_ret ⟨M'.length, by rw [List.length_cons]; omega, Or.inr ⟨hr, f, ls ++ [l], M', a', g2, c2, x2, l2, fr.tr f2, k78.tr k2, by rw [List.length_append, List.length_singleton]; show (ls.length : Int) + 1 = _; omega, by rw [List.length_append, List.length_singleton]; omega, n2, hR, by omega, rfl⟩⟩
