/-! TEXT: conditions; the class -/
def XG (σ0 s : St) (S : List Int) (L : List Tk) (acc : Cd) : Prop := (GL L ∧ CT s L ∧ XC s acc ∧ XK s S ∧ VS S) ∧ opn S ≤ 8 ∧ acc.length + S.length + L.length ≤ 401 ∧ Fr [139, 142, 143, 144, 145] σ0 s ∧ K78 σ0 s
def XF (σ0 : St) (r : Int) (s : St) (R : Re) : Prop := ∃ k L, R = .inl (k, L) ∧ r = 0 ∧ Fr [139, 142, 143, 144, 145] σ0 s ∧ s 139 7 = k ∧ CT s L ∧ GL L
theorem XG.bad {σ0 s : St} {S : List Int} {L : List Tk} {acc : Cd} {R : Re} {k : Int} (h : XG σ0 s S L acc) (hR : R = .inl (k, L)) : XF σ0 0 (up s 139 7 k) R :=
  ⟨k, L, hR, rfl, h.2.2.2.1.up (by decide), rfl, h.1.2.1.fr (S := [139]) (Fr.rf.up (by decide)) (by decide), h.1.1⟩
theorem XG.down {σ0 s : St} {S : List Int} {L : List Tk} {acc : Cd} {p : Int} (hp : 41 ≤ p) (h : XG σ0 s S L acc) : Ok (fX5_noteDown p s) fun _ s' => XG σ0 s' (popS p S) L (acc ++ popE p S) := by
  obtain ⟨⟨g, ct, xc, xk, hv⟩, ho, hl, f, k⟩ := h
  have l1 := g.len
  have l2 := hv.len26 ho
  refine ok_mono (x_down hp xk xc hv (by omega) (by omega) ho) ?_
  rintro _ s' ⟨f1, k1, xk1, xc1⟩
  have := pop_len (p := p) (S := S)
  have := pop_opn (p := p) (S := S)
  exact ⟨⟨g, ct.fr f1 (by decide), xc1, xk1, hv.pop⟩, by omega, by rw [List.length_append]; omega, f.tr (f1.mono (by decide)), k.tr k1⟩
theorem x_putOff {s : St} {S : List Int} {p : Int} (h : XK s S) (hl : S.length < 28) : ∃ s', fX5_putOff p s = some (0, s') ∧ Fr [139, 144] s s' ∧ K78 s s' ∧ s' 139 5 = (S.length : Int) + 1 ∧ s' 139 6 = opn S ∧ stkA (s' 144) (p :: S) := by
  obtain ⟨k1, k2, k3⟩ := h
  have e5 : up s 144 (s 139 5) p 139 5 = s 139 5 := rfl
  unfold fX5_putOff
  rw [fld_eq, if_pos (by omega), fld_eq, sto_eq (by omega), fld_eq, e5, put_eq, w32_sm (by omega)]
  refine ⟨_, rfl, (Fr.rf.up (by decide)).up (by decide), ⟨rfl, rfl⟩, by rw [← k1]; rfl, k2, ?_, ?_⟩
  · show (if 144 = 144 ∧ (S.length : Int) = s 139 5 then p else s 144 S.length) = p
    rw [if_pos ⟨rfl, k1.symm⟩]
  · refine stk_cong k3 fun i i0 i1 => ?_
    show (if 144 = 144 ∧ i = s 139 5 then p else s 144 i) = s 144 i
    rw [if_neg (by omega)]
theorem pC_t {f : Nat} {S : List Int} {t : Tk} {M : List Tk} {a : Cd} : pC (f + 1) true S (t :: M) a = if t.1 = 40 ∨ t.1 = 266 then (if opn S = 8 then .inl (3, t :: M) else pC f true (t.1 :: S) M a) else match pC0 (t :: M) a with
        | .inl x => .inl x
        | .inr (L1, a1) => pC f false (popS 266 S) L1 (a1 ++ popE 266 S) := rfl
theorem pC_f {f : Nat} {S : List Int} {t : Tk} {M : List Tk} {a : Cd} : pC (f + 1) false S (t :: M) a = if t.1 = 265 ∨ t.1 = 264 then pC f true (t.1 :: popS t.1 S) M (a ++ popE t.1 S) else match popS 264 S with
        | [] => if t.1 = 41 then .inl (1, t :: M) else .inr (t :: M, a ++ popE 264 S)
        | _ :: S2 => if t.1 = 41 then pC f false (popS 266 S2) M (a ++ popE 264 S ++ popE 266 S2) else .inl (1, t :: M) := rfl
theorem x_open {σ0 σ : St} {S : List Int} {L : List Tk} {acc : Cd} {R : Re} {f : Nat} (h : XG σ0 σ S L acc) (hR : pC f true S L acc = R) (hf : L.length ≤ f) : Ok (fX5_readOpenings σ) fun r s => XF σ0 r s R ∨ (r = 1 ∧ ∃ f' S' L', XG σ0 s S' L' acc ∧ pC f' true S' L' acc = R ∧ L'.length ≤ f' ∧ L'.length ≤ L.length ∧ ∀ t M, L' = t :: M → ¬ (t.1 = 40 ∨ t.1 = 266)) := by
  unfold fX5_readOpenings
  rw [ko_bnx]
  refine cnt_ok (fun k x s => ∃ f' S' L', XG σ0 s S' L' acc ∧ pC f' true S' L' acc = R ∧ L'.length ≤ f' ∧ L'.length ≤ L.length ∧ 0 ≤ x ∧ x ≤ opn S' ∧ k = L'.length) L.length ⟨f, S, L, h, hR, hf, Nat.le_refl _, Int.le_refl _, opn_0, rfl⟩ (by have := h.2.2.1; omega) ?_
  clear hR hf
  rintro k x s ⟨f', S', L', hg, hR, hf, hl, x0, x1, rfl⟩
  have hg' := hg
  obtain ⟨⟨g, ct, xc, xk, hv⟩, ho, hln, fr, k78⟩ := hg
  obtain ⟨t, M, rfl⟩ := g.cons
  rw [List.length_cons] at hf hl hln
  obtain ⟨f', rfl⟩ : ∃ m, f' = m + 1 := ⟨f' - 1, by omega⟩
  have l2 := hv.len26 ho
  rw [if_neg (by omega), x_kind ct, bnd_some]
  rw [pC_t] at hR
  by_cases m : t.1 = 40 ∨ t.1 = 266
  · rw [show (if t.1 = 40 then (some (Sum.inl (), s) : Rs (Unit ⊕ (Int ⊕ (Unit ⊕ Int)))) else if t.1 = 266 then some (Sum.inl (), s) else some (Sum.inr (Sum.inr (Sum.inr 1)), s)) = some (Sum.inl (), s) by (rcases m with q | q <;> rw [q] <;> rfl), bnx_inl, fld_eq, xk.2.1]
    rw [if_pos m] at hR
    by_cases o8 : opn S' = 8
    · rw [if_neg (by omega)]
      rw [if_pos o8] at hR
      refine ok_ret (show Ok _ _ from ?_)
      rw [x_refuse, bnd_some]
      exact ok_ret (Or.inl (hg'.bad hR.symm))
    · rw [if_pos (by omega)]
      rw [if_neg o8] at hR
      obtain ⟨s1, e1, f1, k1, k5, k6, k7⟩ := x_putOff (p := t.1) xk (by omega)
      rw [e1, bnd_some, fld_eq, k6, put_eq, w32_sm (by have := opn_0 (S := S'); omega)]
      have u6 : t.1 ≠ 256 := by omega
      have fu : Fr [139, 144] s (up s1 139 6 (opn S' + 1)) := f1.up (by decide)
      obtain ⟨s2, e2, f2, c2⟩ := x_adv (ct.fr fu (by decide)) (g.tl u6)
      rw [e2, bnd_some, w32_sm (by omega)]
      have eo : opn (t.1 :: S') = opn S' + 1 := by
        show opn S' + (if t.1 = 40 ∨ t.1 = 266 then 1 else 0) = _
        rw [if_pos m]
      have xku : XK (up s1 139 6 (opn S' + 1)) (t.1 :: S') := ⟨by (show s1 139 5 = _); rw [k5, List.length_cons]; omega, eo.symm, k7⟩
      have ku : K78 s1 (up s1 139 6 (opn S' + 1)) := ⟨rfl, rfl⟩
      exact ok_ret ⟨M.length, by rw [List.length_cons]; omega, f', t.1 :: S', M, ⟨⟨g.tl u6, c2, (xc.fr fu (by decide)).fr f2 (by decide), xku.fr f2 (by decide), hv, by omega⟩, by omega, by rw [List.length_cons]; omega, (fr.tr (fu.mono (by decide))).tr (f2.mono (by decide)), (k78.tr k1).tr (ku.tr (K78.fr f2 (by decide)))⟩, hR, by omega, by omega, by omega, by omega, rfl⟩
  · rw [show (if t.1 = 40 then (some (Sum.inl (), s) : Rs (Unit ⊕ (Int ⊕ (Unit ⊕ Int)))) else if t.1 = 266 then some (Sum.inl (), s) else some (Sum.inr (Sum.inr (Sum.inr 1)), s)) = some (Sum.inr (Sum.inr (Sum.inr 1)), s) by rw [if_neg (by omega), if_neg (by omega)], bnx_inr]
    refine ok_ret (Or.inr ⟨rfl, f' + 1, S', t :: M, hg', by rw [pC_t]; exact hR, by rw [List.length_cons]; omega, by rw [List.length_cons]; omega, fun t' M' e => ?_⟩)
    cases e
    exact m
theorem x_close {σ0 σ : St} {S : List Int} {L : List Tk} {acc : Cd} {R : Re} {f : Nat} (h : XG σ0 σ S L acc) (hR : pC f false (popS 266 S) L (acc ++ popE 266 S) = R) (hf : L.length ≤ f) : Ok (fX5_readClosings σ) fun r s => XF σ0 r s R ∨ (r = 1 ∧ ∃ f' S' L' a', XG σ0 s S' L' a' ∧ pC f' false S' L' a' = R ∧ L'.length ≤ f' ∧ L'.length ≤ L.length ∧ hdS S' < 266 ∧ ∀ t M, L' = t :: M → t.1 ≠ 41) := by
  unfold fX5_readClosings
  rw [ko_bnd]
  refine ok_mono (h.down (by decide)) ?_
  intro _ s1 h1
  rw [ko_bnx]
  refine cnt_ok (fun k x s => ∃ f' S' L' a', XG σ0 s S' L' a' ∧ pC f' false S' L' a' = R ∧ L'.length ≤ f' ∧ L'.length ≤ L.length ∧ 0 ≤ x ∧ x + opn S' ≤ 8 ∧ hdS S' < 266 ∧ k = L'.length) L.length ⟨f, _, L, _, h1, hR, hf, Nat.le_refl _, Int.le_refl _, by have := h1.2.1; omega, pop_hd (by decide), rfl⟩ (by have := h.2.2.1; omega) ?_
  clear hR hf h1
  rintro k x s ⟨f', S', L', a', hg, hR, hf, hl, x0, x1, hd, rfl⟩
  have o0 := opn_0 (S := S')
  have hg' := hg
  obtain ⟨⟨g, ct, xc, xk, hv⟩, ho, hln, fr, k78⟩ := hg
  obtain ⟨t, M, rfl⟩ := g.cons
  rw [List.length_cons] at hf hl hln
  obtain ⟨f', rfl⟩ : ∃ m, f' = m + 1 := ⟨f' - 1, by omega⟩
  rw [if_neg (by omega), x_kind ct, bnd_some]
  by_cases m : t.1 = 41
  · rw [if_pos m, ko_bnd]
    rw [pC_f, if_neg (by omega)] at hR
    refine ok_mono (hg'.down (by decide)) ?_
    intro _ s2 h2
    have ol := pop_opn (p := 264) (S := S')
    have ph := pop_hd (p := 264) (by decide) (S := S')
    generalize popE 264 S' = E1 at *
    generalize popS 264 S' = S1 at *
    have h2' := h2
    obtain ⟨⟨g2, ct2, xc2, xk2, hv2⟩, ho2, hln2, fr2, k782⟩ := h2
    rw [fld_eq, xk2.1]
    match S1, hR, xk2, hv2, hln2, h2', ol, ph with
    | [], hR, xk2, hv2, hln2, h2', ol, ph =>
      rw [if_pos (show (([] : List Int).length : Int) = 0 from rfl)]
      refine ok_ret (show Ok _ _ from ?_)
      rw [x_refuse, bnd_some]
      have hR : (if t.1 = 41 then .inl (1, t :: M) else .inr (t :: M, a' ++ E1)) = R := hR
      rw [if_pos m] at hR
      exact ok_ret (Or.inl (h2'.bad hR.symm))
    | y :: S2, hR, xk2, hv2, hln2, h2', ol, ph =>
      have hR : (if t.1 = 41 then pC f' false (popS 266 S2) M (a' ++ E1 ++ popE 266 S2) else .inl (1, t :: M)) = R := hR
      rw [if_pos m] at hR
      have y4 : y = 40 := by
        have a := hv2.2
        have b : y < 264 := ph
        omega
      have eo : opn (y :: S2) = opn S2 + 1 := by
        show opn S2 + (if y = 40 ∨ y = 266 then 1 else 0) = _
        rw [if_pos (Or.inl y4)]
      obtain ⟨k5, k6, k7⟩ := xk2
      rw [List.length_cons] at k5 hln2
      rw [List.length_cons, if_neg (by omega), fld_eq, put_eq, fld_eq, k5, w32_sm (by have := hv2.len26 ho2; rw [List.length_cons] at this; omega)]
      have e6 : up s2 139 5 (((S2.length + 1 : Nat) : Int) - 1) 139 6 = opn S2 + 1 := by rw [← eo]; exact k6
      rw [e6, put_eq, w32_sm (x := opn S2 + 1 - 1) (by have := opn_0 (S := S2); omega), ko_bnd]
      have fu : Fr [139] s2 (up (up s2 139 5 (((S2.length + 1 : Nat) : Int) - 1)) 139 6 (opn S2 + 1 - 1)) := (Fr.rf.up (by decide)).up (by decide)
      have h3 : XG σ0 (up (up s2 139 5 (((S2.length + 1 : Nat) : Int) - 1)) 139 6 (opn S2 + 1 - 1)) S2 (t :: M) (a' ++ E1) := by
        refine ⟨⟨g2, ct2.fr fu (by decide), xc2.fr fu (by decide), ⟨?_, ?_, ?_⟩, hv2.1⟩, by omega, by rw [List.length_cons] at hln2 ⊢; omega, fr2.tr (fu.mono (by decide)), k782.tr ⟨rfl, rfl⟩⟩
        · show ((S2.length + 1 : Nat) : Int) - 1 = _; omega
        · show opn S2 + 1 - 1 = _; omega
        · exact k7.2
      refine ok_mono (h3.down (by decide)) ?_
      intro _ s4 h4
      have u6 : t.1 ≠ 256 := by omega
      have ol4 := pop_opn (p := 266) (S := S2)
      obtain ⟨⟨g4, ct4, xc4, xk4, hv4⟩, ho4, hln4, fr4, k784⟩ := h4
      obtain ⟨s5, e5, f5, c5⟩ := x_adv ct4 (g4.tl u6)
      rw [e5, bnd_some, w32_sm (by omega)]
      rw [List.length_cons] at hln4
      exact ok_ret ⟨M.length, by rw [List.length_cons]; omega, f', _, M, _, ⟨⟨g4.tl u6, c5, xc4.fr f5 (by decide), xk4.fr f5 (by decide), hv4⟩, ho4, by omega, fr4.tr (f5.mono (by decide)), k784.tr (K78.fr f5 (by decide))⟩, hR, by omega, by omega, by omega, by omega, pop_hd (by decide), rfl⟩
  · rw [if_neg m]
    refine ok_ret (Or.inr ⟨rfl, f' + 1, S', t :: M, a', hg', hR, by rw [List.length_cons]; omega, by rw [List.length_cons]; omega, hd, fun t' M' e => ?_⟩)
    cases e
    exact m
