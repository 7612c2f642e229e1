/-! TEXT: comparisons -/
theorem pS_in : ∀ (k : Nat) (L : List Tk), L.length ≤ k → ∀ so po a L' a', pS L so po a = .inr (L', a') → (∃ u M, L' = u :: M) ∧ a'.length + L'.length ≤ a.length + pnd so + pnd po + L.length ∧ L'.length < L.length := by
  intro k
  induction k with
  | zero =>
    intro L hL so po a L' a' h
    cases L with
    | nil => cases h
    | cons t L => simp at hL
  | succ k ih =>
    intro L hL so po a L' a' h
    rw [pS_pP _ L (Nat.le_refl _)] at h
    have pin := pP_in _ L (Nat.le_refl _) po a
    generalize pP L po a = R at *
    match R, h, pin with
    | .inl x, h, _ => cases h
    | .inr (L1, a1), h, pin =>
      obtain ⟨⟨u, M, rfl⟩, lb, lt⟩ := pin _ _ rfl
      rw [aft_inr] at h
      unfold nxs at h
      rw [List.length_cons] at lb lt
      have le : (emi so a1).length = a1.length + pnd so := emi_len
      by_cases m : u.1 = 43 ∨ u.1 = 45
      · rw [if_pos m] at h
        obtain ⟨x, y, z⟩ := ih M (by omega) _ _ _ _ _ h
        have p1 : pnd u.1 ≤ 1 := by unfold pnd; split <;> omega
        have p2 : pnd (-1) = 0 := rfl
        exact ⟨x, by omega, by omega⟩
      · rw [if_neg m] at h
        cases h
        exact ⟨⟨u, M, rfl⟩, by rw [List.length_cons]; omega, by rw [List.length_cons]; omega⟩
abbrev isCm (k : Int) : Prop := k = 60 ∨ k = 61 ∨ k = 62
def thn (o : Int) : Re → Re
  | .inr (L, a) => .inr (L, a ++ [(o, 0)])
  | R => R
def cm2 : Re → Re
  | .inr (u :: M, a) => if isCm u.1 then thn (sgn u.1) (pS M (-1) (-1) a) else .inl (1, u :: M)
  | .inr ([], _) => .inl (1, [])
  | R => R
theorem cm2_inr {u : Tk} {M : List Tk} {a : Cd} : cm2 (.inr (u :: M, a)) = if isCm u.1 then thn (sgn u.1) (pS M (-1) (-1) a) else .inl (1, u :: M) := rfl
def pC0 (L : List Tk) (acc : Cd) : Re := cm2 (pS L (-1) (-1) acc)
theorem pC0_in {L L' : List Tk} {a a' : Cd} (h : pC0 L a = .inr (L', a')) : (∃ u M, L' = u :: M) ∧ a'.length + L'.length ≤ a.length + L.length ∧ L'.length < L.length := by
  unfold pC0 at h
  have pin := pS_in _ L (Nat.le_refl _) (-1) (-1) a
  generalize pS L (-1) (-1) a = R at *
  match R, h, pin with
  | .inl x, h, _ => cases h
  | .inr (L1, a1), h, pin =>
    obtain ⟨⟨u, M, rfl⟩, lb, lt⟩ := pin _ _ rfl
    have p2 : pnd (-1) = 0 := rfl
    rw [List.length_cons] at lb lt
    rw [cm2_inr] at h
    by_cases m : isCm u.1
    · rw [if_pos m] at h
      have pin := pS_in _ M (Nat.le_refl _) (-1) (-1) a1
      generalize pS M (-1) (-1) a1 = R2 at *
      match R2, h, pin with
      | .inl x, h, _ => cases h
      | .inr (L2, a2), h, pin =>
        obtain ⟨x, y, z⟩ := pin _ _ rfl
        cases h
        exact ⟨x, by rw [List.length_append, List.length_singleton]; omega, by omega⟩
    · rw [if_neg m] at h; cases h
theorem XR.tr {σ s1 s2 : St} {r : Int} {R : Re} (f : Fr [142, 143, 145] σ s1) (h : XR s1 r s2 R) : XR σ r s2 R := by
  match R, h with
  | .inl (k, L), ⟨a, b, d⟩ => exact ⟨a, (f.mono (by decide)).tr b, d⟩
  | .inr (L, acc), ⟨a, b, d⟩ => exact ⟨a, f.tr b, d⟩
theorem MR.tr {C : Int → Int} {n : Int} {τ s1 s2 : St} {r : Int} {R : Re} (f : Fm [15, 16] [14, 15, 16, 17, 27] τ s1) (l : LoC τ s1) (h : MR C n s1 r s2 R) : MR C n τ r s2 R := by
  match R, h with
  | .inl (k, L), ⟨a, b, b2, d⟩ => exact ⟨a, (f.mono (by decide) (by decide)).tr b, l.tr b2, d⟩
  | .inr (L, acc), ⟨a, b, b2, d⟩ => exact ⟨a, f.tr b, l.tr b2, d⟩
theorem x_refuse {k : Int} {s : St} : fX5_refuse k s = some (0, up s 139 7 k) := rfl
theorem x_cmp {σ : St} {L : List Tk} {acc : Cd} (g : GL L) (ct : CT σ L) (xc : XC σ acc) (len : acc.length + L.length ≤ 401) : Ok (fX5_readComparison σ) fun r σ' => XR σ r σ' (pC0 L acc) := by
  unfold fX5_readComparison pC0
  rw [ko_bnd]
  refine ok_mono (x_sum g ct xc len) ?_
  intro r s hr
  have pin := pS_in _ L (Nat.le_refl _) (-1) (-1) acc
  generalize pS L (-1) (-1) acc = R1 at *
  match R1, hr, pin with
  | .inl (k, L1), ⟨hr, f1, a1⟩, _ =>
    rw [if_pos hr]
    exact ok_ret ⟨rfl, f1, a1⟩
  | .inr (L1, a1), ⟨hr, f1, c1, g1, x1⟩, pin =>
    rw [if_neg (by omega)]
    obtain ⟨⟨u, M, rfl⟩, lb, lt⟩ := pin _ _ rfl
    have p2 : pnd (-1) = 0 := rfl
    rw [List.length_cons] at lb lt
    rw [x_kind c1, bnd_some]
    rw [cm2_inr]
    have go : isCm u.1 → Ok (bnd (fX8_advance s) fun r13 s14 => bnd (fX5_readSum s14) fun r16 s17 => if r16 = 0 then some (0, s17) else bnd (fX6_add 142 143 400 (w32 (-u.1)) s17) fun r19 s20 => some (1, s20)) fun r σ' => XR σ r σ' (if isCm u.1 then thn (sgn u.1) (pS M (-1) (-1) a1) else .inl (1, u :: M)) := by
      intro m
      rw [if_pos m]
      have u6 : u.1 ≠ 256 := by unfold isCm at m; omega
      obtain ⟨s2, e2, f2, c2⟩ := x_adv c1 (g1.tl u6)
      rw [e2, bnd_some, ko_bnd]
      have F2 : Fr [142, 143, 145] σ s2 := f1.tr (f2.mono (by decide))
      refine ok_mono (x_sum (g1.tl u6) c2 (x1.fr f2 (by decide)) (by omega)) ?_
      intro r s3 hr
      have pin := pS_in _ M (Nat.le_refl _) (-1) (-1) a1
      generalize pS M (-1) (-1) a1 = R2 at *
      match R2, hr, pin with
      | .inl (k, L2), ⟨hr, f3, a3⟩, _ =>
        rw [if_pos hr]
        exact ok_ret ⟨rfl, (F2.mono (by decide)).tr f3, a3⟩
      | .inr (L2, a2), ⟨hr, f3, c3, g3, x3⟩, pin =>
        rw [if_neg (by omega)]
        obtain ⟨_, lb2, lt2⟩ := pin _ _ rfl
        have := g3.len
        obtain ⟨r, s4, e4, f4, x4⟩ := x_emit x3 (by omega) (enc_sgn (k := u.1) (by unfold isCm at m; omega))
        rw [e4, bnd_some]
        exact ok_ret ⟨rfl, (F2.tr f3).tr (f4.mono (by decide)), c3.fr f4 (by decide), g3, x4⟩
    by_cases m1 : u.1 = 60
    · rw [if_pos m1, bnx_inl]; exact go (Or.inl m1)
    by_cases m2 : u.1 = 61
    · rw [if_neg m1, if_pos m2, bnx_inl]; exact go (Or.inr (Or.inl m2))
    by_cases m3 : u.1 = 62
    · rw [if_neg m1, if_neg m2, if_pos m3, bnx_inl]; exact go (Or.inr (Or.inr m3))
    rw [if_neg m1, if_neg m2, if_neg m3, x_refuse, bnd_some, bnx_inr, if_neg (show ¬ isCm u.1 by unfold isCm; omega)]
    exact ok_ret ⟨rfl, (f1.mono (by decide)).up (by decide), rfl, c1.fr (S := [139]) (Fr.rf.up (by decide)) (by decide), g1⟩
theorem m_cmp {C : Int → Int} {n : Int} {τ : St} {L : List Tk} {acc : Cd} (c : CC C n) (e : ME C n τ) (h : RT C n τ L) (mc : MC τ acc) (len : acc.length + L.length ≤ 401) : Ok (fX12_readCompared τ) fun r τ' => MR C n τ r τ' (pC0 L acc) := by
  unfold fX12_readCompared pC0
  rw [ko_bnd]
  refine ok_mono (m_sums c e h mc len) ?_
  intro r s hr
  have pin := pS_in _ L (Nat.le_refl _) (-1) (-1) acc
  generalize pS L (-1) (-1) acc = R1 at *
  match R1, hr, pin with
  | .inl (k, L1), ⟨hr, f1, l1, a1⟩, _ =>
    rw [if_pos hr]
    exact ok_ret ⟨rfl, f1, l1, a1⟩
  | .inr (L1, a1), ⟨hr, f1, l1, r1, c1⟩, pin =>
    rw [if_neg (by omega)]
    obtain ⟨⟨u, M, rfl⟩, lb, lt⟩ := pin _ _ rfl
    have p2 : pnd (-1) = 0 := rfl
    rw [List.length_cons] at lb lt
    have e1 := e.fm f1 (by decide)
    rw [cm2_inr]
    have go : isCm u.1 → Ok (fld s 0 17 fun v19 => bnd (if v19 = 60 then some (6, s) else fld s 0 17 fun v21 => if v21 = 61 then some (7, s) else some (8, s)) fun (y23 : Int) s24 => bnd (fX12_reads s24) fun r26 s27 => bnd (fX12_readSum s27) fun r29 s30 => if r29 = -1 then some (-1, s30) else bnd (fX12_emits y23 0 s30) fun r32 s33 => some ((0 : Int), s33)) fun r τ' => MR C n τ r τ' (if isCm u.1 then thn (sgn u.1) (pS M (-1) (-1) a1) else .inl (1, u :: M)) := by
      intro m
      rw [if_pos m]
      have u6 : u.1 ≠ 256 := by unfold isCm at m; omega
      have w := (r1.1.k4 (show isMk u.1 by unfold isCm at m; unfold isMk; omega)).2
      rw [fld_eq, w, show (if u.1 = 60 then some ((6 : Int), s) else fld s 0 17 fun v21 => if v21 = 61 then some (7, s) else some (8, s)) = some (sgn u.1, s) by (rw [fld_eq, w]; unfold isCm at m; rcases m with q | q | q <;> rw [q] <;> rfl), bnd_some, ko_bnd]
      refine ok_mono (m_reads e1.1 c e1.2 r1 u6) ?_
      rintro _ s2 ⟨f2, r2⟩
      have F2 := f1.tr (f2.mono (by decide) (by decide))
      have L2' := l1.tr (LoC.fm f2 (by decide))
      rw [ko_bnd]
      refine ok_mono (m_sums c (e.fm F2 (by decide)) r2 (c1.fm f2 (by decide)) (by omega)) ?_
      intro r s3 hr
      have pin := pS_in _ M (Nat.le_refl _) (-1) (-1) a1
      generalize pS M (-1) (-1) a1 = R2 at *
      match R2, hr, pin with
      | .inl (k, L2), ⟨hr, f3, l3, a3⟩, _ =>
        rw [if_pos hr]
        exact ok_ret ⟨rfl, (F2.mono (by decide) (by decide)).tr f3, L2'.tr l3, a3⟩
      | .inr (L2, a2), ⟨hr, f3, l3, r3, c3⟩, pin =>
        rw [if_neg (by omega)]
        obtain ⟨_, lb2, lt2⟩ := pin _ _ rfl
        have := r3.len
        obtain ⟨s4, e4, f4, l4, x4⟩ := m_emit (o := sgn u.1) (a := 0) c3 (by omega)
        rw [e4, bnd_some]
        exact ok_ret ⟨rfl, (F2.tr f3).tr (f4.mono (by decide) (by decide)), (L2'.tr l3).tr l4, r3.fm f4 (by decide), x4⟩
    rw [m_sign r1 (by decide), bnd_some]
    by_cases m1 : u.1 = 60
    · rw [if_pos m1, if_neg (by decide), bnx_inl]; exact go (Or.inl m1)
    rw [if_neg m1, if_pos rfl, m_sign r1 (by decide), bnd_some]
    by_cases m2 : u.1 = 61
    · rw [if_pos m2, if_neg (by decide), bnx_inl]; exact go (Or.inr (Or.inl m2))
    rw [if_neg m2, if_pos rfl, m_sign r1 (by decide), bnd_some]
    by_cases m3 : u.1 = 62
    · rw [if_pos m3, if_neg (by decide), bnx_inl]; exact go (Or.inr (Or.inr m3))
    obtain ⟨s4, e4, f4, a4, b4⟩ := m_errs (k := 1) r1
    rw [if_neg m3, if_pos rfl, e4, bnd_some, bnx_inr, if_neg (show ¬ isCm u.1 by unfold isCm; omega)]
    exact ok_ret ⟨rfl, (f1.mono (by decide) (by decide)).tr (f4.mono (by decide) (by decide)), l1.tr (LoC.fm f4 (by decide)), a4, u, M, rfl, b4⟩
