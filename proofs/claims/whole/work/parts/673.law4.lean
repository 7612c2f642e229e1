/-! TEXT: the law; the reference, all -/
theorem pC_len : ∀ (f : Nat) (b : Bool) (S : List Int) (L : List Tk) (a : Cd) (L' : List Tk) (a' : Cd), pC f b S L a = .inr (L', a') → L'.length ≤ L.length := by
  intro f
  induction f with
  | zero =>
    intro b S L a L' a' h
    cases b <;> cases L <;> cases h
  | succ f ih =>
    intro b S L a L' a' h
    cases L with
    | nil => cases b <;> cases h
    | cons t M =>
    rw [List.length_cons]
    cases b with
    | true =>
      rw [pC_t] at h
      by_cases m : t.1 = 40 ∨ t.1 = 266
      · rw [if_pos m] at h
        by_cases o8 : opn S = 8
        · rw [if_pos o8] at h; cases h
        · rw [if_neg o8] at h
          have := ih _ _ _ _ _ _ h
          omega
      · rw [if_neg m] at h
        have pin := fun L1 a1 => pC0_in (L := t :: M) (L' := L1) (a := a) (a' := a1)
        generalize pC0 (t :: M) a = R at *
        match R, h, pin with
        | .inl x, h, _ => cases h
        | .inr (L1, a1), h, pin =>
          obtain ⟨_, _, lt⟩ := pin _ _ rfl
          rw [List.length_cons] at lt
          have := ih _ _ _ _ _ _ h
          omega
    | false =>
      rw [pC_f] at h
      by_cases m : t.1 = 265 ∨ t.1 = 264
      · rw [if_pos m] at h
        have := ih _ _ _ _ _ _ h
        omega
      · rw [if_neg m] at h
        generalize popE 264 S = E1 at *
        generalize popS 264 S = S1 at *
        match S1, h with
        | [], h =>
          have h : (if t.1 = 41 then (.inl (1, t :: M) : Re) else .inr (t :: M, a ++ E1)) = .inr (L', a') := h
          by_cases m1 : t.1 = 41
          · rw [if_pos m1] at h; cases h
          · rw [if_neg m1] at h
            cases h
            rw [List.length_cons]; exact Nat.le_refl _
        | y :: S2, h =>
          have h : (if t.1 = 41 then pC f false (popS 266 S2) M (a ++ E1 ++ popE 266 S2) else .inl (1, t :: M)) = .inr (L', a') := h
          by_cases m1 : t.1 = 41
          · rw [if_pos m1] at h
            have := ih _ _ _ _ _ _ h
            omega
          · rw [if_neg m1] at h; cases h
theorem m_lines {C : Int → Int} {n : Int} {τ : St} {L : List Tk} {acc : Cd} (c : CC C n) (e : ME C n τ) (h : RT C n τ L) (mc : MC τ acc) (o0 : τ 0 28 = 0) (len : acc.length + L.length ≤ 401) : Ok (fX12_readLaw τ) fun r s => MN τ r s (pLs L.length L acc []) := by
  unfold fX12_readLaw
  rw [ko_bnx]
  generalize hR : pLs L.length L acc [] = R
  refine cnt_ok (fun k x s => ∃ f ls M a, MQL C n τ s ls M a ∧ x = ls.length ∧ ls.length ≤ 16 ∧ pLs f M a ls = R ∧ M.length ≤ f ∧ k = M.length) L.length ⟨L.length, [], L, acc, ⟨Fm.rf, LoC.rf, fun i _ => ⟨rfl, rfl, rfl, rfl⟩, fun j l hl => by simp at hl, h, mc, len, o0⟩, rfl, by decide, hR, Nat.le_refl _, rfl⟩ (by omega) ?_
  clear hR
  rintro k x s ⟨f, ls, M, a, hq, rfl, l16, hR, hf, rfl⟩
  have rt := hq.2.2.2.2.1
  obtain ⟨t, M, rfl⟩ := rt.cons
  rw [List.length_cons] at hf
  obtain ⟨f, rfl⟩ : ∃ m, f = m + 1 := ⟨f - 1, by omega⟩
  rw [pLs_c] at hR
  rw [m_lineWord rt, bnd_some]
  by_cases w : 260 ≤ t.1 ∧ t.1 ≤ 262
  · rw [if_pos w, if_neg (by decide)]
    have u6 : t.1 ≠ 256 := by omega
    rw [if_neg u6] at hR
    unfold pL1 at hR
    rw [if_neg (fun q => q w)] at hR
    by_cases f16 : 16 ≤ ls.length
    · rw [if_pos (by omega)]
      rw [if_pos f16] at hR
      obtain ⟨s1, e1, h1⟩ := hq.bad (k := 3) hR.symm
      rw [e1, bnd_some]
      exact ok_ret (show MN τ (-1) s1 R from h1)
    · rw [if_neg (by omega), w32_sm (by omega), lb_eq, fld_eq, sto_eq (by omega)]
      rw [if_neg f16] at hR
      have wv : s 0 17 = t.1 - 260 := by
        obtain ⟨a1, a2, a3⟩ := rt.1.k2.2 (rt.1.k2.1.mpr (by omega))
        unfold kW at a3
        split at a3 <;> omega
      rw [wv, ko_bnd]
      have h1 := hq.st (k := 11) (i := 32 + (ls.length : Int)) (v := t.1 - 260) (Or.inl rfl) rfl
      refine ok_mono (h1.read c e u6) ?_
      rintro _ s2 ⟨h2, f2⟩
      have p11 : s2 11 (32 + (ls.length : Int)) = t.1 - 260 := by
        rw [f2.1 11 (by decide) (by decide)]
        exact if_pos ⟨rfl, rfl⟩
      clear h1 f2
      have m2 := h2.2.2.2.2.2.1
      rw [fld_eq, m2.1, sto_eq (by omega), ko_bnd]
      have h3 := h2.st (k := 12) (i := 32 + (ls.length : Int)) (v := (a.length : Int)) (Or.inr (Or.inl rfl)) rfl
      have q11 : up s2 12 (32 + (ls.length : Int)) (a.length : Int) 11 (32 + (ls.length : Int)) = t.1 - 260 := p11
      have q12 : up s2 12 (32 + (ls.length : Int)) (a.length : Int) 12 (32 + (ls.length : Int)) = (a.length : Int) := if_pos ⟨rfl, rfl⟩
      generalize up s2 12 (32 + (ls.length : Int)) (a.length : Int) = s3 at *
      clear h2 p11
      have l3 := h3.2.2.2.2.2.2.1
      refine ok_mono (m_sums c (h3.me e) h3.2.2.2.2.1 h3.2.2.2.2.2.1 l3) ?_
      intro r s4 hr
      unfold pLn at hR
      have pin := pS_in _ M (Nat.le_refl _) (-1) (-1) a
      generalize pS M (-1) (-1) a = R1 at *
      match R1, hr, pin, hR with
      | .inl (k, L1), ⟨hr, f4, lo4, a4, t4, M4, eL, b4⟩, _, hR =>
        subst hr
        rw [if_pos rfl]
        have hR : (.inl (k, L1) : (Int × List Tk) ⊕ (List Ln × Cd)) = R := hR
        subst hR
        exact ok_ret (show MN τ (-1) s4 (.inl (k, L1)) from ⟨rfl, h3.1.tr (f4.mono (by decide) (by decide)), h3.2.1.tr lo4, h3.2.2.1.tr (Lo32.fm f4 (by decide)), a4, t4, M4, eL, b4⟩)
      | .inr (L1, a1), ⟨hr, f4, lo4, r4, c4⟩, pin, hR =>
        subst hr
        rw [if_neg (by decide), fld_eq, c4.1, sto_eq (by omega)]
        obtain ⟨⟨u, M1, rfl⟩, lbq, lt⟩ := pin _ _ rfl
        have p2 : pnd (-1) = 0 := rfl
        have hR : (match lnE t.1 a.length a1.length (cnd u M1 a1) with | .inl x => .inl x | .inr (l, M', a) => pLs f M' a (ls ++ [l])) = R := hR
        have h4 := h3.go f4 lo4 (by decide) r4 c4 (by omega) (by rw [f4.2 28 (by decide)]; exact h3.2.2.2.2.2.2.2)
        have h5 := h4.st (k := 13) (i := 32 + (ls.length : Int)) (v := (a1.length : Int)) (Or.inr (Or.inr (Or.inl rfl))) rfl
        have g11 : up s4 13 (32 + (ls.length : Int)) (a1.length : Int) 11 (32 + (ls.length : Int)) = t.1 - 260 := by
          show s4 11 _ = _
          rw [f4.1 11 (by decide) (by decide)]; exact q11
        have g12 : up s4 13 (32 + (ls.length : Int)) (a1.length : Int) 12 (32 + (ls.length : Int)) = (a.length : Int) := by
          show s4 12 _ = _
          rw [f4.1 12 (by decide) (by decide)]; exact q12
        have g13 : up s4 13 (32 + (ls.length : Int)) (a1.length : Int) 13 (32 + (ls.length : Int)) = (a1.length : Int) := if_pos ⟨rfl, rfl⟩
        generalize up s4 13 (32 + (ls.length : Int)) (a1.length : Int) = s5 at *
        clear h4 h3 q11 q12 f4 r4 c4
        have r5 := h5.2.2.2.2.1
        rw [List.length_cons] at lt lbq
        have fin : ∀ L6 a6 s6, (cnd u M1 a1 = .inr (L6, a6) ∨ (cnd u M1 a1 = .inl (1, L6) ∧ ∃ t M, L6 = t :: M ∧ t.1 = 41)) → MQL C n τ s6 ls L6 a6 → (cnd u M1 a1 = .inr (L6, a6) → L6.length ≤ M1.length + 1) → s6 11 = s5 11 → s6 12 = s5 12 → s6 13 = s5 13 → Ok (fld s6 0 27 fun v36 => sto s6 14 48 (32 + (ls.length : Int)) v36 fun s38 => bnd (fX12_isSign 59 s38) fun r39 s40 => if r39 = 0 then bnd (fX12_errs 1 s40) fun r47 s48 => some (.inr (.inr r47), s48) else bnd (fX12_reads s40) fun r42 s43 => lb (w32 ((ls.length : Int) + 1)) fun v45 => some (.inl v45, s43)) (Jx (fun (x : Int) s => ∃ k', k' < (t :: M).length ∧ ∃ f ls M a, MQL C n τ s ls M a ∧ x = ls.length ∧ ls.length ≤ 16 ∧ pLs f M a ls = R ∧ M.length ≤ f ∧ k' = M.length) (Jx (fun (y : Int) s => Ok (fld s 0 16 fun v56 => if v56 = 0 then some (y, s) else bnd (fX12_errs 1 s) fun r58 s59 => some (r58, s59)) fun r s => MN τ r s R) fun r s => MN τ r s R)) := by
          intro L6 a6 s6 hc h6 l6 x11 x12 x13
          have m6 := h6.2.2.2.2.2.1
          have l401 := h6.2.2.2.2.2.2.1
          have h7 := h6.st (k := 14) (i := 32 + (ls.length : Int)) (v := (a6.length : Int)) (Or.inr (Or.inr (Or.inr rfl))) rfl
          rw [fld_eq, m6.1, sto_eq (by omega)]
          have k11 : up s6 14 (32 + (ls.length : Int)) (a6.length : Int) 11 (32 + (ls.length : Int)) = t.1 - 260 := by show s6 11 _ = _; rw [x11]; exact g11
          have k12 : up s6 14 (32 + (ls.length : Int)) (a6.length : Int) 12 (32 + (ls.length : Int)) = (a.length : Int) := by show s6 12 _ = _; rw [x12]; exact g12
          have k13 : up s6 14 (32 + (ls.length : Int)) (a6.length : Int) 13 (32 + (ls.length : Int)) = (a1.length : Int) := by show s6 13 _ = _; rw [x13]; exact g13
          have k14 : up s6 14 (32 + (ls.length : Int)) (a6.length : Int) 14 (32 + (ls.length : Int)) = (a6.length : Int) := if_pos ⟨rfl, rfl⟩
          generalize up s6 14 (32 + (ls.length : Int)) (a6.length : Int) = s7 at *
          obtain ⟨v, M7, rfl⟩ := h7.2.2.2.2.1.cons
          rw [m_sign h7.2.2.2.2.1 (by decide), bnd_some]
          by_cases m59 : v.1 = 59
          · rw [if_pos m59, if_neg (by decide), ko_bnd]
            have hc : cnd u M1 a1 = .inr (v :: M7, a6) := by
              rcases hc with q | ⟨_, t', M', q, q2⟩
              · exact q
              · cases q; omega
            have l6 := l6 hc
            rw [hc] at hR
            have hR : (match (if v.1 = 59 then .inr ((t.1, (a.length : Int), (a1.length : Int), (a6.length : Int)), M7, a6) else .inl (1, v :: M7) : Rl3) with | .inl x => .inl x | .inr (l, M', a) => pLs f M' a (ls ++ [l])) = R := hR
            rw [if_pos m59] at hR
            have hR : pLs f M7 a6 (ls ++ [(t.1, (a.length : Int), (a1.length : Int), (a6.length : Int))]) = R := hR
            refine ok_mono (h7.read c e (by omega)) ?_
            rintro _ s8 ⟨h8, f8⟩
            rw [w32_sm (by omega), lb_eq]
            rw [List.length_cons] at l6
            refine ok_ret ⟨M7.length, by rw [List.length_cons]; omega, f, _, M7, a6, ⟨h8.1, h8.2.1, h8.2.2.1, fun j l hj => ?_, h8.2.2.2.2⟩, by rw [List.length_append, List.length_singleton]; omega, by rw [List.length_append, List.length_singleton]; omega, hR, by omega, rfl⟩
            rcases snoc_at hj with ⟨g, q⟩ | ⟨g, rfl⟩
            · exact h8.2.2.2.1 j l q
            · rw [f8.1 11 (by decide) (by decide), f8.1 12 (by decide) (by decide), f8.1 13 (by decide) (by decide), f8.1 14 (by decide) (by decide), g]
              exact ⟨k11, k12, k13, k14⟩
          · rw [if_neg m59, if_pos rfl]
            have hR : R = .inl (1, v :: M7) := by
              rcases hc with q | ⟨q, _⟩
              · rw [q] at hR
                have hR : (match (if v.1 = 59 then .inr ((t.1, (a.length : Int), (a1.length : Int), (a6.length : Int)), M7, a6) else .inl (1, v :: M7) : Rl3) with | .inl x => .inl x | .inr (l, M', a) => pLs f M' a (ls ++ [l])) = R := hR
                rw [if_neg m59] at hR
                exact hR.symm
              · rw [q] at hR
                exact hR.symm
            obtain ⟨s8, e8, h8⟩ := h7.bad (k := 1) hR
            rw [e8, bnd_some]
            exact ok_ret (show MN τ (-1) s8 R from h8)
        rw [m_word (w := 3) r5 (by decide), bnd_some, show kW 3 = 263 from rfl]
        by_cases wh : u.1 = 263
        · rw [if_pos wh, if_neg (by decide), bnx_bnd, ko_bnd]
          refine ok_mono (h5.read c e (by omega)) ?_
          rintro _ s6 ⟨h6, f6⟩
          rw [bnx_bnd, ko_bnd]
          have eC : cnd u M1 a1 = pC M1.length true [] M1 a1 := if_pos wh
          refine ok_mono (m_any c (h6.me e) h6.2.2.2.2.1 h6.2.2.2.2.2.1 h6.2.2.2.2.2.2.2 h6.2.2.2.2.2.2.1) ?_
          rintro r s7 (⟨k, L7, eR, rfl, f7, lo7, a7, t7, M7, eL, b7⟩ | ⟨L7, a7, eR, rfl, f7, lo7, r7, c7, l7, z7⟩)
          · rw [if_pos rfl, bnx_inr]
            rw [eC, eR] at hR
            have hR : (.inl (k, L7) : (Int × List Tk) ⊕ (List Ln × Cd)) = R := hR
            subst hR
            exact ok_ret (show MN τ (-1) s7 (.inl (k, L7)) from ⟨rfl, h6.1.tr (f7.mono (by decide) (by decide)), h6.2.1.tr lo7, h6.2.2.1.tr (Lo32.fm f7 (by decide)), a7, t7, M7, eL, b7⟩)
          · rw [if_neg (by decide), bnx_inl]
            have f77 : Fm [15, 16, 17] [14, 15, 16, 17, 27, 28, 30] s5 s7 := (f6.mono (by decide) (by decide)).tr f7
            refine fin L7 a7 s7 (by rcases eR with q | ⟨q, q2⟩; exact Or.inl (eC.trans q); exact Or.inr ⟨eC.trans q, q2⟩) (h6.go f7 lo7 (by decide) r7 c7 l7 z7) (fun q => ?_) (f77.1 11 (by decide) (by decide)) (f77.1 12 (by decide) (by decide)) (f77.1 13 (by decide) (by decide))
            have := pC_len _ _ _ _ _ _ _ (eC.symm.trans q)
            omega
        · rw [if_neg wh, if_pos rfl, bnx_inl]
          exact fin (u :: M1) a1 s5 (Or.inl (if_neg wh)) h5 (fun _ => by rw [List.length_cons]; omega) rfl rfl rfl
  · rw [if_neg w, if_pos rfl]
    refine ok_ret (show Ok _ _ from ?_)
    rw [fld_eq]
    by_cases u6 : t.1 = 256
    · rw [if_pos u6] at hR
      rw [if_pos (rt.1.k0.mpr u6), ← hR]
      exact ok_ret ⟨rfl, hq.1, hq.2.1, hq.2.2.1, hq.2.2.2.2.2.1, hq.2.2.2.1⟩
    · rw [if_neg u6] at hR
      unfold pL1 at hR
      rw [if_pos w] at hR
      obtain ⟨s1, e1, h1⟩ := hq.bad (k := 1) hR.symm
      rw [if_neg (fun q => u6 (rt.1.k0.mp q)), e1, bnd_some]
      exact ok_ret h1
