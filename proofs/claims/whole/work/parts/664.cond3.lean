/-! TEXT: conditions; the class, all -/
def XO (σ0 : St) (r : Int) (s : St) (R : Re) : Prop := XF σ0 r s R ∨ ∃ L a, R = .inr (L, a) ∧ r = 1 ∧ GL L ∧ CT s L ∧ XC s a ∧ a.length + L.length ≤ 401 ∧ Fr [139, 142, 143, 144, 145] σ0 s ∧ K78 σ0 s
theorem x_conds {σ : St} {L : List Tk} {acc : Cd} (g : GL L) (ct : CT σ L) (xc : XC σ acc) (len : acc.length + L.length ≤ 401) : Ok (fX5_readConditions σ) fun r s => XO σ r s (pC L.length true [] L acc) := by
  unfold fX5_readConditions
  rw [put_eq, put_eq, ko_bnx]
  generalize hR : pC L.length true [] L acc = R
  have f0 : Fr [139] σ (up (up σ 139 5 0) 139 6 0) := (Fr.rf.up (by decide)).up (by decide)
  refine cnt_ok (fun k x s => ∃ f' S' L' a', XG σ s S' L' a' ∧ pC f' true S' L' a' = R ∧ L'.length ≤ f' ∧ L'.length ≤ L.length ∧ 0 ≤ x ∧ 2 * x + (L'.length : Int) ≤ 401 ∧ k = L'.length) L.length ⟨L.length, [], L, acc, ⟨⟨g, ct.fr f0 (by decide), xc.fr f0 (by decide), ⟨rfl, rfl, trivial⟩, trivial⟩, by decide, by rw [List.length_nil]; omega, f0.mono (by decide), ⟨rfl, rfl⟩⟩, hR, Nat.le_refl _, Nat.le_refl _, Int.le_refl _, by omega, rfl⟩ (by omega) ?_
  clear hR f0
  rintro k x s ⟨f1, S1, L1, a1, h1, hR1, hf1, hl1, x0, x1, rfl⟩
  have g1 := h1.1.1
  have l1 := g1.len
  rw [if_pos (by omega), ko_bnd]
  have fin0 : ∀ s', XF σ 0 s' R → Ok (some ((Sum.inr (Sum.inr 0) : Int ⊕ (Unit ⊕ Int)), s')) (Jx (fun x' s => ∃ k', k' < L1.length ∧ ∃ f' S' L' a', XG σ s S' L' a' ∧ pC f' true S' L' a' = R ∧ L'.length ≤ f' ∧ L'.length ≤ L.length ∧ 0 ≤ x' ∧ 2 * x' + (L'.length : Int) ≤ 401 ∧ k' = L'.length) (Jx (fun (_ : Unit) s31 => Ok (bnd (fX5_noteDown 264 s31) fun r33 s34 => fld s34 139 5 fun v36 => if v36 = 0 then some (1, s34) else bnd (fX5_refuse 1 s34) fun r38 s39 => if r38 = 0 then some (0, s39) else some (1, s39)) fun r s => XO σ r s R) fun r s => XO σ r s R)) := fun s' h => ok_ret (show XO σ 0 s' R from Or.inl h)
  refine ok_mono (x_open h1 hR1 hf1) ?_
  rintro r s2 (h | ⟨rfl, f2, S2, L2, h2, hR2, hf2, hl2, hh2⟩)
  · have r0 : r = 0 := by obtain ⟨_, _, _, e, _⟩ := h; exact e
    subst r0
    rw [if_pos rfl]
    exact fin0 s2 h
  rw [if_neg (by decide), ko_bnd]
  clear h1 hR1
  obtain ⟨⟨g2, ct2, xc2, xk2, hv2⟩, ho2, hln2, fr2, k782⟩ := h2
  obtain ⟨t, M, rfl⟩ := g2.cons
  obtain ⟨f2, rfl⟩ : ∃ m, f2 = m + 1 := ⟨f2 - 1, by rw [List.length_cons] at hf2; omega⟩
  rw [pC_t, if_neg (hh2 t M rfl)] at hR2
  refine ok_mono (x_cmp g2 ct2 xc2 (by omega)) ?_
  intro r s3 hr
  have pin := fun L' a' => pC0_in (L := t :: M) (L' := L') (a := a1) (a' := a')
  generalize pC0 (t :: M) a1 = R3 at *
  match R3, hr, pin, hR2 with
  | .inl (k, L3), ⟨hr, f3, a3, c3, g3⟩, _, hR2 =>
    subst hr
    rw [if_pos rfl]
    exact fin0 s3 ⟨k, L3, hR2.symm, rfl, fr2.tr f3, a3, c3, g3⟩
  | .inr (L3, a3), ⟨hr, f3, c3, g3, x3⟩, pin, hR2 =>
    rw [if_neg (by omega), ko_bnd]
    obtain ⟨_, lb3, lt3⟩ := pin _ _ rfl
    have F3 := fr2.tr (f3.mono (by decide))
    have h3 : XG σ s3 S2 L3 a3 := ⟨⟨g3, c3, x3, xk2.fr f3 (by decide), hv2⟩, ho2, by omega, F3, k782.tr (K78.fr f3 (by decide))⟩
    refine ok_mono (x_close (f := f2) h3 hR2 (by omega)) ?_
    clear hR2 h3
    rintro r s4 (h | ⟨rfl, f4, S4, L4, a4, h4, hR4, hf4, hl4, hd4, hh4⟩)
    · have r0 : r = 0 := by obtain ⟨_, _, _, e, _⟩ := h; exact e
      subst r0
      rw [if_pos rfl]
      exact fin0 s4 h
    rw [if_neg (by decide)]
    have h4' := h4
    obtain ⟨⟨g4, ct4, xc4, xk4, hv4⟩, ho4, hln4, fr4, k784⟩ := h4
    obtain ⟨u, M4, rfl⟩ := g4.cons
    obtain ⟨f4, rfl⟩ : ∃ m, f4 = m + 1 := ⟨f4 - 1, by rw [List.length_cons] at hf4; omega⟩
    have n41 := hh4 u M4 rfl
    rw [x_kind ct4, bnd_some]
    rw [pC_f] at hR4
    by_cases m : u.1 = 265 ∨ u.1 = 264
    · rw [show (if u.1 = 265 then (some (Sum.inl (), s4) : Rs (Unit ⊕ (Int ⊕ (Unit ⊕ Int)))) else if u.1 = 264 then some (Sum.inl (), s4) else some (Sum.inr (Sum.inr (Sum.inl ())), s4)) = some (Sum.inl (), s4) by (rcases m with q | q <;> rw [q] <;> rfl), bnx_inl, ko_bnd]
      rw [if_pos m] at hR4
      refine ok_mono (h4'.down (by omega)) ?_
      intro _ s5 h5
      have ph := pop_hd (p := u.1) (by omega) (S := S4)
      have vpo : VS (u.1 :: popS u.1 S4) := by
        refine ⟨hv4.pop, ?_⟩
        have a := (hv4.pop (p := u.1)).hd
        omega
      obtain ⟨⟨g5, ct5, xc5, xk5, hv5⟩, ho5, hln5, fr5, k785⟩ := h5
      have l26 := hv5.len26 ho5
      obtain ⟨s6, e6, f6, k6, q5, q6, q7⟩ := x_putOff (p := u.1) xk5 (by omega)
      rw [e6, bnd_some]
      have u6 : u.1 ≠ 256 := by omega
      obtain ⟨s7, e7, f7, c7⟩ := x_adv (ct5.fr f6 (by decide)) (g5.tl u6)
      rw [e7, bnd_some, w32_sm (by omega)]
      have eo : opn (u.1 :: popS u.1 S4) = opn (popS u.1 S4) := by
        show opn (popS u.1 S4) + (if u.1 = 40 ∨ u.1 = 266 then 1 else 0) = _
        rw [if_neg (by omega)]; omega
      have xk6 : XK s6 (u.1 :: popS u.1 S4) := ⟨by rw [q5, List.length_cons]; omega, by rw [q6, eo], q7⟩
      rw [List.length_cons] at hf4 hl4 hln5 hl2 lt3
      exact ok_ret ⟨M4.length, by omega, f4, _, M4, _, ⟨⟨g5.tl u6, c7, (xc5.fr f6 (by decide)).fr f7 (by decide), xk6.fr f7 (by decide), vpo⟩, by omega, by rw [List.length_cons]; omega, (fr5.tr (f6.mono (by decide))).tr (f7.mono (by decide)), (k785.tr k6).tr (K78.fr f7 (by decide))⟩, hR4, by omega, by omega, by omega, by omega, rfl⟩
    · rw [show (if u.1 = 265 then (some (Sum.inl (), s4) : Rs (Unit ⊕ (Int ⊕ (Unit ⊕ Int)))) else if u.1 = 264 then some (Sum.inl (), s4) else some (Sum.inr (Sum.inr (Sum.inl ())), s4)) = some (Sum.inr (Sum.inr (Sum.inl ())), s4) by rw [if_neg (by omega), if_neg (by omega)], bnx_inr]
      rw [if_neg m] at hR4
      refine ok_ret (show Ok _ _ from ?_)
      rw [ko_bnd]
      refine ok_mono (h4'.down (by decide)) ?_
      intro _ s5 h5
      generalize popE 264 S4 = E1 at *
      generalize popS 264 S4 = T1 at *
      have h5' := h5
      obtain ⟨⟨g5, ct5, xc5, xk5, hv5⟩, ho5, hln5, fr5, k785⟩ := h5
      rw [fld_eq, xk5.1]
      match T1, hR4, h5', hln5 with
      | [], hR4, h5', hln5 =>
        have hR4 : (if u.1 = 41 then .inl (1, u :: M4) else .inr (u :: M4, a4 ++ E1)) = R := hR4
        rw [if_neg n41] at hR4
        rw [if_pos (show (([] : List Int).length : Int) = 0 from rfl)]
        rw [List.length_nil] at hln5
        exact ok_ret (Or.inr ⟨u :: M4, _, hR4.symm, rfl, g5, ct5, xc5, by omega, fr5, k785⟩)
      | y :: T1, hR4, h5', hln5 =>
        have hR4 : (if u.1 = 41 then pC f4 false (popS 266 T1) M4 (a4 ++ E1 ++ popE 266 T1) else .inl (1, u :: M4)) = R := hR4
        rw [if_neg n41] at hR4
        rw [if_neg (by rw [List.length_cons]; omega), x_refuse, bnd_some, if_pos rfl]
        exact ok_ret (Or.inl (h5'.bad hR4.symm))
