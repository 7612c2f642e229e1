/-! TEXT: a line of the law; the class -/
abbrev Rl3 := (Int × List Tk) ⊕ (Ln × List Tk × Cd)
def cnd (u : Tk) (M : List Tk) (a : Cd) : Re := if u.1 = 263 then pC M.length true [] M a else .inr (u :: M, a)
def lnE (k : Int) (i m : Nat) : Re → Rl3
  | .inr (v :: M, a) => if v.1 = 59 then .inr ((k, (i : Int), (m : Int), (a.length : Int)), M, a) else .inl (1, v :: M)
  | .inr ([], _) => .inl (1, [])
  | .inl x => .inl x
def lnM (k : Int) (i : Nat) : Re → Rl3
  | .inr (u :: M, a) => lnE k i a.length (cnd u M a)
  | .inr ([], _) => .inl (1, [])
  | .inl x => .inl x
def pLn (k : Int) (M : List Tk) (acc : Cd) : Rl3 := lnM k acc.length (pS M (-1) (-1) acc)
/-- a line, when so many lie there -/
def pL1 (t : Tk) (M : List Tk) (acc : Cd) (ls : List Ln) : Rl3 := if ¬ (260 ≤ t.1 ∧ t.1 ≤ 262) then .inl (1, t :: M) else if 16 ≤ ls.length then .inl (3, t :: M) else pLn t.1 M acc
abbrev CX7 : List Nat := [139, 140, 141, 142, 143, 144, 145]
def XN (σ : St) (r : Int) (s : St) (R : Rl3) (ls : List Ln) : Prop := match R with
  | .inl (k, L) => r = 0 ∧ Fr CX7 σ s ∧ s 139 7 = k ∧ CT s L ∧ GL L
  | .inr (l, M, a) => r = 1 ∧ Fr CX7 σ s ∧ K78 σ s ∧ CT s M ∧ GL M ∧ XC s a ∧ XL s (ls ++ [l]) ∧ a.length + M.length ≤ 401
theorem x_size {σ : St} {acc : Cd} (h : XC σ acc) : fX6_size 142 143 400 σ = some ((acc.length : Int), σ) := by
  rw [row_size, h.2.1]
theorem x_line {σ : St} {t : Tk} {M : List Tk} {acc : Cd} {ls : List Ln} (g : GL (t :: M)) (ct : CT σ (t :: M)) (xc : XC σ acc) (xl : XL σ ls) (hls : ls.length ≤ 16) (len : acc.length + (M.length + 1) ≤ 401) : Ok (fX5_readLawLine σ) fun r s => XN σ r s (pL1 t M acc ls) ls := by
  unfold fX5_readLawLine pL1
  rw [x_kind ct, bnd_some, x_within, bnd_some]
  by_cases w : 260 ≤ t.1 ∧ t.1 ≤ 262
  · rw [if_pos w, if_neg (by decide), if_neg (fun q => q w), ko_bnd]
    refine ok_mono (x_begin g ct xl hls (by omega)) ?_
    rintro r s (⟨_, f, rfl, f1, c1, g1⟩ | ⟨nf, rfl, rfl⟩)
    · rw [if_neg (by decide), if_neg (by omega), x_size (xc.fr f1 (by decide)), bnd_some, ko_bnd]
      unfold pLn
      refine ok_mono (x_sum g1 c1 (xc.fr f1 (by decide)) (by omega)) ?_
      intro r s2 hr
      have pin := pS_in _ M (Nat.le_refl _) (-1) (-1) acc
      generalize pS M (-1) (-1) acc = R1 at *
      match R1, hr, pin with
      | .inl (k, L1), ⟨hr, f2, k2, c2, g2⟩, _ =>
        rw [if_pos hr]
        exact ok_ret (show XN σ 0 s2 (.inl (k, L1)) ls from ⟨rfl, (f1.mono (by decide)).tr (f2.mono (by decide)), k2, c2, g2⟩)
      | .inr (L1, a1), ⟨hr, f2, c2, g2, x2⟩, pin =>
        rw [if_neg (by omega)]
        obtain ⟨⟨u, M1, rfl⟩, lb, lt⟩ := pin _ _ rfl
        have p2 : pnd (-1) = 0 := rfl
        rw [List.length_cons] at lb lt
        have F2 : Fr [142, 143, 145] σ s2 := (f1.mono (by decide)).tr f2
        rw [x_size x2, bnd_some, x_kind c2, bnd_some]
        show Ok _ fun r s => XN σ r s (lnE t.1 acc.length a1.length (cnd u M1 a1)) ls
        have fin : ∀ L3 a3 s3, cnd u M1 a1 = .inr (L3, a3) → Fr [139, 142, 143, 144, 145] σ s3 → K78 σ s3 → CT s3 L3 → GL L3 → XC s3 a3 → a3.length + L3.length ≤ 401 → Ok (bnd (fX5_take 59 s3) fun r31 s32 => if r31 = 0 then some (0, s32) else bnd (fX6_size 142 143 400 s32) fun r34 s35 => bnd (fX6_add_ 140 141 64 t.1 (acc.length : Int) (a1.length : Int) r34 0 s35) fun r37 s38 => if r37 = -1 then some (0, s38) else some (1, s38)) fun r s => XN σ r s (lnE t.1 acc.length a1.length (cnd u M1 a1)) ls := by
          intro L3 a3 s3 eC f3 k3 c3 g3 x3 l3
          obtain ⟨v, M3, rfl⟩ := g3.cons
          rw [eC, ko_bnd]
          rw [List.length_cons] at l3
          show Ok _ fun r s => Ok _ fun r s => XN σ r s (if v.1 = 59 then .inr ((t.1, (acc.length : Int), (a1.length : Int), (a3.length : Int)), M3, a3) else .inl (1, v :: M3)) ls
          refine ok_mono (x_take g3 c3 (by decide)) ?_
          rintro r s4 (⟨e, rfl, f4, c4, g4⟩ | ⟨e, rfl, rfl⟩)
          · rw [if_neg (by decide), if_pos e, x_size (x3.fr f4 (by decide)), bnd_some]
            obtain ⟨r, s5, e5, rn, f5, x5⟩ := x_addLine (a := t.1) (b := (acc.length : Int)) (c := (a1.length : Int)) (d := (a3.length : Int)) ((xl.fr f3 (by decide)).fr f4 (by decide)) f
            rw [e5, bnd_some, if_neg rn]
            exact ok_ret ⟨rfl, ((f3.mono (by decide)).tr (f4.mono (by decide))).tr (f5.mono (by decide)), (k3.tr (K78.fr f4 (by decide))).tr (K78.fr f5 (by decide)), c4.fr f5 (by decide), g4, (x3.fr f4 (by decide)).fr f5 (by decide), x5, by omega⟩
          · rw [if_pos rfl, if_neg e]
            exact ok_ret ⟨rfl, (f3.mono (by decide)).up (by decide), rfl, c3.fr (S := [139]) (Fr.rf.up (by decide)) (by decide), g3⟩
        by_cases wh : u.1 = 263
        · rw [if_pos wh]
          obtain ⟨s3, e3, f3, c3⟩ := x_adv c2 (g2.tl (by omega))
          rw [e3, bnd_some, bnx_bnd, ko_bnd]
          have F3 : Fr [142, 143, 145] σ s3 := F2.tr (f3.mono (by decide))
          have eC : cnd u M1 a1 = pC M1.length true [] M1 a1 := if_pos wh
          refine ok_mono (x_conds (g2.tl (by omega)) c3 (x2.fr f3 (by decide)) (by omega)) ?_
          rintro r s4 (⟨k, L4, eR, rfl, f4, k4, c4, g4⟩ | ⟨L4, a4, eR, rfl, g4, c4, x4, l4, f4, k4⟩)
          · rw [if_pos rfl, bnx_inr, eC, eR]
            exact ok_ret (show XN σ 0 s4 (.inl (k, L4)) ls from ⟨rfl, (F3.mono (by decide)).tr (f4.mono (by decide)), k4, c4, g4⟩)
          · rw [if_neg (by decide), bnx_inl]
            exact fin L4 a4 s4 (eC.trans eR) ((F3.mono (by decide)).tr f4) ((K78.fr F3 (by decide)).tr k4) c4 g4 x4 l4
        · rw [if_neg wh, bnx_inl]
          exact fin (u :: M1) a1 s2 (if_neg wh) (F2.mono (by decide)) (K78.fr F2 (by decide)) c2 g2 x2 (by rw [List.length_cons]; omega)
    · rw [if_pos rfl, if_pos (show t.1 = t.1 from rfl), if_pos (show 16 ≤ ls.length by omega)]
      exact ok_ret (show XN σ 0 (up σ 139 7 3) (.inl (3, t :: M)) ls from ⟨rfl, Fr.rf.up (by decide), rfl, ct.fr (S := [139]) (Fr.rf.up (by decide)) (by decide), g⟩)
  · rw [if_neg w, if_pos rfl, x_refuse, bnd_some, if_pos w]
    exact ok_ret (show XN σ 0 _ (.inl (1, t :: M)) ls from ⟨rfl, Fr.rf.up (by decide), rfl, ct.fr (S := [139]) (Fr.rf.up (by decide)) (by decide), g⟩)
