/-! TEXT: sums; the class -/
def opnd (t : Tk) : Int × Int := if t.1 = 257 then (0, t.2.1) else (1, t.1 - 270)
def sgn (k : Int) : Int := if k = 43 then 2 else if k = 45 then 3 else if k = 42 then 4 else if k = 47 then 5 else if k = 60 then 6 else if k = 61 then 7 else 8
abbrev isDv (k : Int) : Prop := k = 47
/-- what is wrong with an operand (d: behind a slash) -/
def flt (t : Tk) (po : Int) : Int := if t.1 = 257 then (if po = 47 ∧ t.2.1 = 0 then 2 else 0) else if po ≠ 47 ∧ 270 ≤ t.1 ∧ t.1 ≤ 279 then 0 else 1
def emi (k : Int) (acc : Cd) : Cd := if k = -1 then acc else acc ++ [(sgn k, 0)]
def pS : List Tk → Int → Int → Cd → Re
  | t :: u :: L, so, po, acc => if flt t po ≠ 0 then .inl (flt t po, t :: u :: L) else
      if u.1 = 42 ∨ u.1 = 47 then pS L so u.1 (emi po (acc ++ [opnd t]))
      else if u.1 = 43 ∨ u.1 = 45 then pS L u.1 (-1) (emi so (emi po (acc ++ [opnd t])))
      else .inr (u :: L, emi so (emi po (acc ++ [opnd t])))
  | L, _, _, _ => .inl (1, L)
def pnd (k : Int) : Nat := if k = -1 then 0 else 1
theorem emi_len {k : Int} {acc : Cd} : (emi k acc).length = acc.length + pnd k := by
  unfold emi pnd
  by_cases h : k = -1
  · rw [if_pos h, if_pos h]; rfl
  · rw [if_neg h, if_neg h, List.length_append, List.length_singleton]
def XR (σ : St) (r : Int) (σ' : St) (R : Re) : Prop := match R with
  | .inl (k, L) => r = 0 ∧ Fr [139, 142, 143, 144, 145] σ σ' ∧ σ' 139 7 = k ∧ CT σ' L ∧ GL L
  | .inr (L, acc) => r = 1 ∧ Fr [142, 143, 145] σ σ' ∧ CT σ' L ∧ GL L ∧ XC σ' acc
theorem x_within {a l h : Int} {σ : St} : fX11_within a l h σ = some (if l ≤ a ∧ a ≤ h then 1 else 0, σ) := within_eq
theorem GL.len {L : List Tk} (h : GL L) : 1 ≤ L.length := by
  obtain ⟨t, M, rfl⟩ := h.cons
  rw [List.length_cons]; omega
theorem x_operand {σ : St} {t : Tk} {L : List Tk} {acc : Cd} {po : Int} (g : GL (t :: L)) (ct : CT σ (t :: L)) (xc : XC σ acc) (hl : t.1 ≠ 256 → acc.length < 400) : Ok (fX5_readOperand (if po = 47 then 1 else 0) σ) fun r σ' => (flt t po ≠ 0 ∧ r = 0 ∧ σ' = up σ 139 7 (flt t po)) ∨ (flt t po = 0 ∧ r = 1 ∧ Fr [142, 143, 145] σ σ' ∧ CT σ' L ∧ GL L ∧ XC σ' (acc ++ [opnd t])) := by
  obtain ⟨v, hv, hv7⟩ := x_num ct
  have rf : ∀ k s, fX5_refuse k s = some (0, up s 139 7 k) := fun _ _ => rfl
  have fin : flt t po = 0 → ∀ w, w = enc (opnd t).1 (opnd t).2 → Ok (bnd (fX6_add 142 143 400 w σ) fun r31 s32 => bnd (fX8_advance s32) fun r34 s35 => some ((1 : Int), s35)) fun r σ' => (flt t po ≠ 0 ∧ r = 0 ∧ σ' = up σ 139 7 (flt t po)) ∨ (flt t po = 0 ∧ r = 1 ∧ Fr [142, 143, 145] σ σ' ∧ CT σ' L ∧ GL L ∧ XC σ' (acc ++ [opnd t])) := by
    intro h0 w hw
    have t6 : t.1 ≠ 256 := by
      intro e
      unfold flt at h0
      rw [if_neg (by omega), if_neg (by omega)] at h0
      cases h0
    obtain ⟨r, s1, e1, f1, c1⟩ := x_emit xc (hl t6) hw
    obtain ⟨s2, e2, f2, c2⟩ := x_adv (ct.fr f1 (by decide)) (g.tl t6)
    rw [e1, bnd_some, e2, bnd_some]
    exact ok_ret (Or.inr ⟨h0, rfl, (f1.mono (by decide)).tr (f2.mono (by decide)), c2, g.tl t6, c1.fr f2 (by decide)⟩)
  unfold fX5_readOperand
  rw [x_kind ct, bnd_some]
  by_cases d : po = 47
  · rw [if_pos d, if_neg (by decide), bnd_some]
    by_cases k : t.1 = 257
    · rw [if_pos k, bnx_inl, if_neg (by decide), hv, bnd_some]
      by_cases z : v = 0
      · rw [if_pos z, rf, bnd_some, bnx_inr]
        have : flt t po = 2 := by unfold flt; rw [if_pos k, if_pos ⟨d, (hv7 k).symm.trans z⟩]
        exact ok_ret (Or.inl ⟨by omega, rfl, by rw [this]⟩)
      · rw [if_neg z, bnx_inl, if_pos rfl, hv, bnd_some, bnd_some]
        refine fin ?_ v ?_
        · unfold flt; rw [if_pos k, if_neg (fun q => z ((hv7 k).trans q.2))]
        · unfold opnd enc; rw [if_pos k, if_pos rfl]; exact hv7 k
    · rw [if_neg k, if_pos rfl, rf, bnd_some, bnx_inr]
      have : flt t po = 1 := by unfold flt; rw [if_neg k, if_neg (by omega)]
      exact ok_ret (Or.inl ⟨by omega, rfl, by rw [this]⟩)
  · rw [if_neg d, if_pos rfl, x_within, bnd_some]
    by_cases k : t.1 = 257
    · rw [if_neg (show ¬ (270 ≤ t.1 ∧ t.1 ≤ 279) by omega), if_pos rfl, bnd_some, if_pos k, bnx_inl, if_pos rfl, bnx_inl, if_pos rfl, hv, bnd_some, bnd_some]
      refine fin ?_ v ?_
      · unfold flt; rw [if_pos k, if_neg (fun q => d q.1)]
      · unfold opnd enc; rw [if_pos k, if_pos rfl]; exact hv7 k
    · by_cases nn : 270 ≤ t.1 ∧ t.1 ≤ 279
      · rw [if_pos nn, if_neg (by decide), bnd_some, if_neg k, if_neg (by decide), bnx_inl, if_pos rfl, bnx_inl, if_neg (by decide), bnd_some, w32_sm (by omega)]
        refine fin ?_ (-t.1) ?_
        · unfold flt; rw [if_neg k, if_pos ⟨d, nn⟩]
        · unfold opnd enc; rw [if_neg k, if_neg (show ¬ (1 : Int) = 0 by decide), if_pos rfl]; omega
      · rw [if_neg nn, if_pos rfl, bnd_some, if_neg k, if_pos rfl, rf, bnd_some, bnx_inr]
        have : flt t po = 1 := by unfold flt; rw [if_neg k, if_neg (fun q => nn q.2)]
        exact ok_ret (Or.inl ⟨by omega, rfl, by rw [this]⟩)
theorem enc_sgn {k : Int} (h : k = 43 ∨ k = 45 ∨ k = 42 ∨ k = 47 ∨ k = 60 ∨ k = 61 ∨ k = 62) : w32 (-k) = enc (sgn k) 0 := by
  rcases h with rfl | rfl | rfl | rfl | rfl | rfl | rfl <;> decide
/-- the class writes a sign that waited -/
theorem x_sign {β : Type} {σ : St} {acc : Cd} {k : Int} {f : Unit → St → Rs β} {P : β → St → Prop} (h : XC σ acc) (hk : k = -1 ∨ k = 43 ∨ k = 45 ∨ k = 42 ∨ k = 47) (hl : acc.length + pnd k ≤ 400) (hf : ∀ σ', Fr [142, 143] σ σ' → XC σ' (emi k acc) → Ok (f () σ') P) : Ok (bnd (if k = -1 then some ((), σ) else bnd (fX6_add 142 143 400 (w32 (-k)) σ) fun _ s => some ((), s)) f) P := by
  by_cases e : k = -1
  · rw [if_pos e, bnd_some]
    exact hf σ Fr.rf (by unfold emi; rw [if_pos e]; exact h)
  · rw [if_neg e]
    unfold pnd at hl
    rw [if_neg e] at hl
    obtain ⟨r, s1, e1, f1, c1⟩ := x_emit h (by omega) (enc_sgn (k := k) (by omega))
    rw [e1, bnd_some, bnd_some]
    exact hf s1 f1 (by unfold emi; rw [if_neg e]; exact c1)
theorem x_sum {σ : St} {L : List Tk} {acc : Cd} (g : GL L) (ct : CT σ L) (xc : XC σ acc) (len : acc.length + L.length ≤ 401) : Ok (fX5_readSum σ) fun r σ' => XR σ r σ' (pS L (-1) (-1) acc) := by
  unfold fX5_readSum
  rw [ko_bnx]
  refine while_ok (fun x s => ∃ M a, GL M ∧ CT s M ∧ XC s a ∧ Fr [142, 143, 145] σ s ∧ a.length + pnd x.1 + pnd x.2.1 + M.length ≤ 401 ∧ pS M x.1 x.2.1 a = pS L (-1) (-1) acc ∧ 0 ≤ x.2.2 ∧ 2 * x.2.2 + M.length ≤ 401 ∧ (x.1 = -1 ∨ x.1 = 43 ∨ x.1 = 45) ∧ (x.2.1 = -1 ∨ x.2.1 = 42 ∨ x.2.1 = 47)) (fun x _ => (401 - x.2.2).toNat) ⟨L, acc, g, ct, xc, Fr.rf, len, rfl, by decide, by show 2 * (0 : Int) + (L.length : Int) ≤ 401; omega, Or.inl rfl, Or.inl rfl⟩ (by decide) ?_
  rintro ⟨so, po, i⟩ s ⟨M, a, gM, cM, aM, f, lM, eR, i0, i1, hso, hpo⟩
  simp only at lM eR i0 i1 hso hpo
  obtain ⟨t, M, rfl⟩ := gM.cons
  rw [List.length_cons] at lM i1
  show Ok (if i < 400 then bnd (if po = 47 then some (1, s) else some (0, s)) _ else _) _
  rw [if_pos (by omega), show (if po = 47 then some ((1 : Int), s) else some (0, s)) = some (if po = 47 then 1 else 0, s) by split <;> rfl, bnd_some, ko_bnd]
  refine ok_mono (x_operand gM cM aM fun t6 => by have := (gM.tl t6).len; omega) ?_
  rintro r s1 (⟨bad, rfl, rfl⟩ | ⟨ok, rfl, f1, c1, g1, a1⟩)
  · rw [if_pos rfl]
    refine ok_ret (show Ok _ _ from ok_ret ?_)
    rw [← eR]
    have : pS (t :: M) so po a = .inl (flt t po, t :: M) ∨ pS (t :: M) so po a = .inl (1, t :: M) ∧ M = [] := by
      cases M with
      | nil => exact Or.inr ⟨rfl, rfl⟩
      | cons u M => unfold pS; rw [if_pos bad]; exact Or.inl rfl
    rcases this with e | ⟨e, rfl⟩
    · rw [e]; exact ⟨rfl, (f.mono (by decide)).up (by decide), rfl, cM.fr (S := [139]) (Fr.rf.up (by decide)) (by decide), gM⟩
    · rw [e]
      have t6 : t.1 = 256 := by
        rcases gM with ⟨q, _⟩ | ⟨_, q⟩
        · exact q
        · exact False.elim q
      have : flt t po = 1 := by unfold flt; rw [if_neg (by omega), if_neg (by omega)]
      rw [this]
      exact ⟨rfl, (f.mono (by decide)).up (by decide), rfl, cM.fr (S := [139]) (Fr.rf.up (by decide)) (by decide), gM⟩
  · rw [if_neg (by decide)]
    obtain ⟨u, M, rfl⟩ := g1.cons
    rw [List.length_cons] at lM i1
    refine x_sign (k := po) a1 (by omega) (by rw [List.length_append, List.length_singleton]; omega) fun s2 f2 a2 => ?_
    have c2 := c1.fr f2 (by decide)
    have F2 : Fr [142, 143, 145] σ s2 := (f.tr f1).tr (f2.mono (by decide))
    rw [x_kind c2, bnd_some]
    have eP : pS (t :: u :: M) so po a = if u.1 = 42 ∨ u.1 = 47 then pS M so u.1 (emi po (a ++ [opnd t])) else if u.1 = 43 ∨ u.1 = 45 then pS M u.1 (-1) (emi so (emi po (a ++ [opnd t]))) else .inr (u :: M, emi so (emi po (a ++ [opnd t]))) := by
      rw [pS, if_neg (fun q => q ok)]
    rw [eP] at eR
    have ln : (emi po (a ++ [opnd t])).length = a.length + 1 + pnd po := by rw [emi_len, List.length_append, List.length_singleton]
    have goOn : ∀ y1 y2 s3 b, Fr [142, 143] s2 s3 → XC s3 b → u.1 ≠ 256 → (y1 = -1 ∨ y1 = 43 ∨ y1 = 45) → (y2 = -1 ∨ y2 = 42 ∨ y2 = 47) → b.length + pnd y1 + pnd y2 + M.length ≤ 401 → pS M y1 y2 b = pS L (-1) (-1) acc → Ok (bnd (fX8_advance s3) fun r28 s29 => some (.inl (y1, y2, w32 (i + 1)), s29)) (Jx (fun (x' : Int × Int × Int) s' => (∃ M a, GL M ∧ CT s' M ∧ XC s' a ∧ Fr [142, 143, 145] σ s' ∧ a.length + pnd x'.1 + pnd x'.2.1 + M.length ≤ 401 ∧ pS M x'.1 x'.2.1 a = pS L (-1) (-1) acc ∧ 0 ≤ x'.2.2 ∧ 2 * x'.2.2 + M.length ≤ 401 ∧ (x'.1 = -1 ∨ x'.1 = 43 ∨ x'.1 = 45) ∧ (x'.2.1 = -1 ∨ x'.2.1 = 42 ∨ x'.2.1 = 47)) ∧ (401 - x'.2.2).toNat < (401 - i).toNat) (Jx (fun (_ : Unit) s => Ok (some (0, s)) fun r σ' => XR σ r σ' (pS L (-1) (-1) acc)) fun r σ' => XR σ r σ' (pS L (-1) (-1) acc))) := by
      intro y1 y2 s3 b f3 a3 u6 h1 h2 lb eb
      obtain ⟨s4, e4, f4, c4⟩ := x_adv (c2.fr f3 (by decide)) (g1.tl u6)
      rw [e4, bnd_some, w32_sm (by omega)]
      refine ok_ret ⟨⟨M, b, g1.tl u6, c4, a3.fr f4 (by decide), (F2.tr (f3.mono (by decide))).tr (f4.mono (by decide)), lb, eb, ?_, ?_, h1, h2⟩, ?_⟩
      · show 0 ≤ i + 1; omega
      · show 2 * (i + 1) + (M.length : Int) ≤ 401; omega
      · show (401 - (i + 1)).toNat < (401 - i).toNat; omega
    have p1 : ∀ k : Int, pnd k ≤ 1 := fun k => by unfold pnd; split <;> omega
    by_cases m1 : u.1 = 42
    · rw [if_pos m1, bnx_inl]
      rw [if_pos (Or.inl m1)] at eR
      have := p1 u.1
      exact goOn so u.1 s2 _ Fr.rf a2 (by omega) hso (by omega) (by omega) eR
    rw [if_neg m1]
    by_cases m2 : u.1 = 47
    · rw [if_pos m2, bnx_inl]
      rw [if_pos (Or.inr m2)] at eR
      have := p1 u.1
      exact goOn so u.1 s2 _ Fr.rf a2 (by omega) hso (by omega) (by omega) eR
    rw [if_neg m2, ko_bnx]
    rw [if_neg (by omega)] at eR
    refine x_sign (k := so) a2 (by omega) (by omega) fun s3 f3 a3 => ?_
    have ln3 : (emi so (emi po (a ++ [opnd t]))).length = a.length + 1 + pnd po + pnd so := by rw [emi_len, ln]
    have nm : pnd (-1) = 0 := rfl
    by_cases m3 : u.1 = 43
    · rw [if_pos m3]
      rw [if_pos (Or.inl m3)] at eR
      have := p1 u.1
      exact ok_ret (show Ok _ _ from goOn u.1 (-1) s3 _ f3 a3 (by omega) (by omega) (by omega) (by omega) eR)
    rw [if_neg m3]
    by_cases m4 : u.1 = 45
    · rw [if_pos m4]
      rw [if_pos (Or.inr m4)] at eR
      have := p1 u.1
      exact ok_ret (show Ok _ _ from goOn u.1 (-1) s3 _ f3 a3 (by omega) (by omega) (by omega) (by omega) eR)
    rw [if_neg m4]
    rw [if_neg (by omega)] at eR
    refine ok_ret (show XR σ 1 s3 _ from ?_)
    rw [← eR]
    exact ⟨rfl, F2.tr (f3.mono (by decide)), c2.fr f3 (by decide), g1, a3⟩
