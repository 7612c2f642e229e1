/-! TEXT: the reference's tokens -/
abbrev isMk (v : Int) : Prop := v = 59 ∨ v = 43 ∨ v = 45 ∨ v = 42 ∨ v = 47 ∨ v = 40 ∨ v = 41 ∨ v = 60 ∨ v = 61 ∨ v = 62
def KR (t : Tk) (K W : Int) : Prop := (t.1 = 256 ∧ K = 0) ∨ (t.1 = 257 ∧ K = 3 ∧ W = t.2.1 ∧ 0 ≤ W ∧ W ≤ 9999) ∨ (K = 2 ∧ 0 ≤ W ∧ W ≤ 27 ∧ t.1 = kW W) ∨ (K = 4 ∧ W = t.1 ∧ isMk W) ∨ (K = 1 ∧ (t.1 = 258 ∨ (0 ≤ t.1 ∧ t.1 ≤ 255 ∧ ¬ isMk t.1)))
def RT (C : Int → Int) (n : Int) (τ : St) : List Tk → Prop
  | [] => False
  | t :: L => KR t (τ 0 16) (τ 0 17) ∧ τ 0 15 = t.2.2 ∧ (t.1 = 256 → L = []) ∧ (t.1 ≠ 256 → 0 ≤ τ 0 14 ∧ τ 0 14 ≤ n ∧ TL C (τ 0 14) L)
theorem mMk_eq {v : Int} {σ : St} : fX12_isMarkSign v σ = some (if isMk v then 1 else 0, σ) := by
  unfold fX12_isMarkSign
  by_cases h : isMk v
  · rw [if_pos h]
    rcases h with rfl | rfl | rfl | rfl | rfl | rfl | rfl | rfl | rfl | rfl <;> rfl
  · rw [if_neg h]
    unfold isMk at h
    iterate 10 rw [if_neg (by omega)]
theorem CM.fm {C : Int → Int} {n : Int} {τ τ' : St} {D : List Nat} {J : List Int} (h : CM C n τ) (f : Fm D J τ τ') (d : D.contains 8 = false ∧ J.contains 13 = false) : CM C n τ' := by
  have d1 : 8 ∉ D := by simpa using d.1
  have d2 : 13 ∉ J := by simpa using d.2
  unfold CM
  rw [f.1 8 (by decide) d1, f.2 13 d2]
  exact h
theorem WT.fm {τ τ' : St} {D : List Nat} {J : List Int} (h : WT τ) (f : Fm D J τ τ') (d : D.contains 9 = false) : WT τ' := by
  have d1 : 9 ∉ D := by simpa using d
  unfold WT
  rw [f.1 9 (by decide) d1]
  exact h
theorem cw_ne {w : Nat} (h : w < 28) : 260 ≤ cw w ∧ cw w ≤ 290 := by unfold cw; omega
theorem TK.k {C : Int → Int} {i j : Int} {t : Tk} (h : TK C i j t) (hc : 0 ≤ C i ∧ C i ≤ 255) : t.1 ≠ 256 := by
  obtain ⟨_, h⟩ := h
  by_cases d : isDg (C i)
  · rw [if_pos d] at h
    by_cases g : j - i ≤ 4
    · rw [if_pos g] at h; omega
    · rw [if_neg g] at h; omega
  · rw [if_neg d] at h
    by_cases l : isLt (C i)
    · rw [if_pos l] at h
      rcases h with ⟨w, w0, w1, w2⟩ | ⟨w2, _⟩
      · have := cw_ne w0; omega
      · omega
    · rw [if_neg l] at h; omega
theorem reads_ok {C : Int → Int} {n : Int} {τ : St} {L : List Tk} (h : CM C n τ) (c : CC C n) (w : WT τ) (hp : 0 ≤ τ 0 14 ∧ τ 0 14 ≤ n) (hL : TL C (τ 0 14) L) : Ok (fX12_reads τ) fun _ τ' => Fm [] [14, 15, 16, 17] τ τ' ∧ RT C n τ' L := by
  have hn := c.1.2
  cases L with
  | nil => exact False.elim hL
  | cons t L =>
  obtain ⟨s, hs, hL⟩ := hL
  have sn := hs.le c nBl hp.2
  have ps := hs.1
  unfold fX12_reads
  rw [ko_bnd]
  refine while_ok (fun _ z => Fm [] [14, 15, 16, 17] τ z ∧ τ 0 14 ≤ z 0 14 ∧ z 0 14 ≤ s) (fun _ z => (s - z 0 14).toNat) ⟨Fm.rf, Int.le_refl _, ps⟩ (by omega) ?_
  rintro _ z ⟨f, z0, z1⟩
  have hz := h.fm f (by decide)
  rw [fld_eq, raw_eq hz c (by omega), bnd_some]
  by_cases b1 : C (z 0 14) = 32
  · have lt : z 0 14 < s := by
      by_cases g : z 0 14 = s
      · exact absurd (show isBl (C s) from Or.inl (g ▸ b1)) hs.2.2
      · omega
    rw [if_pos b1, fld_eq, put_eq, w32_sm (by omega)]
    refine ok_ret ⟨⟨f.u0 (by decide), ?_, ?_⟩, ?_⟩
    · show τ 0 14 ≤ z 0 14 + 1; omega
    · show z 0 14 + 1 ≤ s; omega
    · show (s - (z 0 14 + 1)).toNat < (s - z 0 14).toNat; omega
  rw [if_neg b1, fld_eq, raw_eq hz c (by omega), bnd_some]
  by_cases b2 : C (z 0 14) = 10
  · have lt : z 0 14 < s := by
      by_cases g : z 0 14 = s
      · exact absurd (show isBl (C s) from Or.inr (g ▸ b2)) hs.2.2
      · omega
    rw [if_pos b2, fld_eq, put_eq, w32_sm (by omega)]
    refine ok_ret ⟨⟨f.u0 (by decide), ?_, ?_⟩, ?_⟩
    · show τ 0 14 ≤ z 0 14 + 1; omega
    · show z 0 14 + 1 ≤ s; omega
    · show (s - (z 0 14 + 1)).toNat < (s - z 0 14).toNat; omega
  rw [if_neg b2]
  have es : z 0 14 = s := by
    by_cases g : z 0 14 = s
    · exact g
    · have := hs.2.1 (z 0 14) z0 (by omega)
      unfold isBl at this
      omega
  refine ok_ret (show Ok _ _ from ?_)
  clear b1 b2 z0 z1
  rw [fld_eq, put_eq, put_eq, fld_eq]
  have e14 : up (up z 0 15 (z 0 14)) 0 16 1 0 14 = s := es
  rw [e14, es]
  clear e14
  have f1 : Fm [] [14, 15, 16, 17] τ (up (up z 0 15 s) 0 16 1) := (f.u0 (by decide)).u0 (by decide)
  have g14 : up (up z 0 15 s) 0 16 1 0 14 = s := es
  have g15 : up (up z 0 15 s) 0 16 1 0 15 = s := rfl
  have g16 : up (up z 0 15 s) 0 16 1 0 16 = 1 := rfl
  generalize up (up z 0 15 s) 0 16 1 = y at *
  have hy := h.fm f1 (by decide)
  rw [raw_eq hy c (by omega), bnd_some]
  rcases hL with ⟨cs, t1, t2, rfl⟩ | ⟨cs, e, he, ht, hL⟩
  · rw [if_pos cs, put_eq]
    exact ok_ret ⟨f1.u0 (by decide), Or.inl ⟨t1, rfl⟩, g15.trans t2.symm, fun _ => rfl, fun x => absurd t1 x⟩
  have sl := in_n c cs
  have cb := c.2.1 s (by omega) sl
  have be := he.bd c sl
  have tk := ht.k cb
  rw [if_neg cs, fld_eq, g14, put_eq, w32_sm (by omega), put_eq, mLt_eq, bnd_some]
  have f2 : Fm [] [14, 15, 16, 17] τ (up (up y 0 14 (s + 1)) 0 17 (C s)) := (f1.u0 (by decide)).u0 (by decide)
  have k14 : up (up y 0 14 (s + 1)) 0 17 (C s) 0 14 = s + 1 := rfl
  have k15 : up (up y 0 14 (s + 1)) 0 17 (C s) 0 15 = s := g15
  have k16 : up (up y 0 14 (s + 1)) 0 17 (C s) 0 16 = 1 := g16
  have k17 : up (up y 0 14 (s + 1)) 0 17 (C s) 0 17 = C s := rfl
  generalize up (up y 0 14 (s + 1)) 0 17 (C s) = u at *
  clear hz f f1 hy g14 g15 g16 es
  obtain ⟨tp, ht⟩ := ht
  by_cases l : isLt (C s)
  · have nd : ¬ isDg (C s) := fun d => dg_lt d l
    have lr : ∀ k, s ≤ k → k < e → isLt (C k) := fun k k0 k1 => by
      unfold Ten at he
      rw [if_neg nd, if_pos l] at he
      by_cases q : k = s
      · rw [q]; exact l
      · exact he.2.1 k (by omega) k1
    have le : ¬ isLt (C e) := by
      unfold Ten at he
      rw [if_neg nd, if_pos l] at he
      exact he.2.2
    rw [if_neg nd, if_pos l] at ht
    rw [if_pos l, if_neg (by decide), ko_bnd]
    refine while_ok (fun _ v => Fm [] [14, 15, 16, 17] τ v ∧ s + 1 ≤ v 0 14 ∧ v 0 14 ≤ e ∧ v 0 15 = s ∧ v 0 16 = 1) (fun _ v => (e - v 0 14).toNat) ⟨f2, by omega, by omega, k15, k16⟩ (by omega) ?_
    rintro _ v ⟨f, v0, v1, v15, v16⟩
    have hv := h.fm f (by decide)
    rw [fld_eq, raw_eq hv c (by omega), bnd_some, mLt_eq, bnd_some]
    by_cases q : v 0 14 < e
    · rw [if_pos (lr (v 0 14) (by omega) q), if_neg (by decide), fld_eq, put_eq, w32_sm (by omega)]
      refine ok_ret ⟨⟨f.u0 (by decide), ?_, ?_, v15, v16⟩, ?_⟩
      · show s + 1 ≤ v 0 14 + 1; omega
      · show v 0 14 + 1 ≤ e; omega
      · show (e - (v 0 14 + 1)).toNat < (e - v 0 14).toNat; omega
    · have ee : v 0 14 = e := by omega
      rw [if_neg (show ¬ isLt (C (v 0 14)) by rw [ee]; exact le), if_pos rfl]
      refine ok_ret (show Ok _ _ from ?_)
      rw [fld_eq, fld_eq, v15, ee, ko_bnd]
      refine ok_mono (wordAt_ok hv c (w.fm f (by decide)) ⟨by omega, by omega, be.2⟩ lr) ?_
      rintro r _ ⟨rfl, hr⟩
      rw [put_eq, fld_eq]
      have er : up v 0 17 r 0 17 = r := rfl
      rw [er]
      rcases hr with ⟨j, hj, jw, rfl⟩ | ⟨rfl, no⟩
      · rw [if_neg (by omega), put_eq]
        refine ok_ret ⟨(f.u0 (by decide)).u0 (by decide), Or.inr (Or.inr (Or.inl ⟨rfl, ?_, ?_, ?_⟩)), v15.trans tp.symm, fun x => absurd x tk, fun _ => ⟨?_, ?_, ?_⟩⟩
        · show (0 : Int) ≤ (j : Int); omega
        · show (j : Int) ≤ 27; omega
        · show t.1 = kW (j : Int)
          have tj := (tab_ok j hj).1
          rcases ht with ⟨w', w0, w1, w2⟩ | ⟨_, w3⟩
          · rw [w2, Wd.uniq w0 tj.1 w1 jw]; exact tj.2.2.2
          · exact absurd jw (w3 _ tj.1)
        · show 0 ≤ v 0 14; omega
        · show v 0 14 ≤ n; omega
        · show TL C (v 0 14) L; rw [ee]; exact hL
      · rw [if_pos rfl]
        refine ok_ret ⟨f.u0 (by decide), Or.inr (Or.inr (Or.inr (Or.inr ⟨v16, Or.inl ?_⟩))), v15.trans tp.symm, fun x => absurd x tk, fun _ => ⟨?_, ?_, ?_⟩⟩
        · rcases ht with ⟨w', w0, w1, w2⟩ | ⟨w2, _⟩
          · obtain ⟨j, hj, rfl⟩ := qW_on w' w0
            exact absurd w1 (no j hj)
          · exact w2
        · show 0 ≤ v 0 14; omega
        · show v 0 14 ≤ n; omega
        · show TL C (v 0 14) L; rw [ee]; exact hL
  rw [if_neg l, if_pos rfl, mDg_eq, bnd_some]
  by_cases d : isDg (C s)
  · have dr : ∀ k, s ≤ k → k < e → isDg (C k) := fun k k0 k1 => by
      unfold Ten at he
      rw [if_pos d] at he
      by_cases q : k = s
      · rw [q]; exact d
      · exact he.2.1 k (by omega) k1
    have de : ¬ isDg (C e) := by
      unfold Ten at he
      rw [if_pos d] at he
      exact he.2.2
    rw [if_pos d] at ht
    have d' := d
    unfold isDg at d'
    rw [if_pos d, if_neg (by decide), put_eq, w32_sm (by omega), ko_bnd]
    refine while_ok (fun _ v => Fm [] [14, 15, 16, 17] τ v ∧ s + 1 ≤ v 0 14 ∧ v 0 14 ≤ e ∧ v 0 15 = s ∧ v 0 16 = 1 ∧ 0 ≤ v 0 17 ∧ v 0 17 ≤ 99999 ∧ (v 0 14 - s ≤ 4 → v 0 17 = nv C s (v 0 14 - s).toNat)) (fun _ v => (e - v 0 14).toNat) ⟨f2.u0 (by decide), ?_, ?_, k15, k16, ?_, ?_, fun _ => ?_⟩ ?_ ?_
    · show s + 1 ≤ u 0 14; omega
    · show u 0 14 ≤ e; omega
    · show 0 ≤ C s - 48; omega
    · show C s - 48 ≤ 99999; omega
    · show C s - 48 = nv C s (u 0 14 - s).toNat
      rw [show (u 0 14 - s).toNat = 0 + 1 by omega]
      unfold nv nv
      rw [show s + ((0 : Nat) : Int) = s by omega]
      omega
    · show (e - u 0 14).toNat < _; omega
    rintro _ v ⟨f, v0, v1, v15, v16, b0, b1, hv17⟩
    have hv := h.fm f (by decide)
    rw [fld_eq, raw_eq hv c (by omega), bnd_some, mDg_eq, bnd_some]
    by_cases q : v 0 14 < e
    · have dx := dr (v 0 14) (by omega) q
      have dx' := dx
      unfold isDg at dx'
      rw [if_pos dx, if_neg (by decide), fld_eq]
      by_cases sm : v 0 17 < 10000
      · rw [if_pos sm, fld_eq, fld_eq, raw_eq hv c (by omega), bnd_some, put_eq, fld_eq, w32_sm (x := 10 * v 0 17) (by omega), w32_sm (x := 10 * v 0 17 + C (v 0 14)) (by omega), w32_sm (x := 10 * v 0 17 + C (v 0 14) - 48) (by omega), put_eq]
        have e14 : up v 0 17 (10 * v 0 17 + C (v 0 14) - 48) 0 14 = v 0 14 := rfl
        rw [e14, w32_sm (by omega)]
        refine ok_ret ⟨⟨(f.u0 (by decide)).u0 (by decide), ?_, ?_, v15, v16, ?_, ?_, ?_⟩, ?_⟩
        · show s + 1 ≤ v 0 14 + 1; omega
        · show v 0 14 + 1 ≤ e; omega
        · show 0 ≤ 10 * v 0 17 + C (v 0 14) - 48; omega
        · show 10 * v 0 17 + C (v 0 14) - 48 ≤ 99999; omega
        · show v 0 14 + 1 - s ≤ 4 → 10 * v 0 17 + C (v 0 14) - 48 = nv C s (v 0 14 + 1 - s).toNat
          intro q4
          rw [show (v 0 14 + 1 - s).toNat = (v 0 14 - s).toNat + 1 by omega, nv, ← hv17 (by omega), show s + (((v 0 14 - s).toNat : Nat) : Int) = v 0 14 by omega]
        · show (e - (v 0 14 + 1)).toNat < (e - v 0 14).toNat; omega
      · rw [if_neg sm, fld_eq, put_eq, fld_eq, put_eq]
        have e14 : up v 0 17 (v 0 17) 0 14 = v 0 14 := rfl
        rw [e14, w32_sm (by omega)]
        refine ok_ret ⟨⟨(f.u0 (by decide)).u0 (by decide), ?_, ?_, v15, v16, b0, b1, ?_⟩, ?_⟩
        · show s + 1 ≤ v 0 14 + 1; omega
        · show v 0 14 + 1 ≤ e; omega
        · show v 0 14 + 1 - s ≤ 4 → v 0 17 = nv C s (v 0 14 + 1 - s).toNat
          intro q4
          exfalso
          have a := hv17 (by omega)
          have b := nv_le (C := C) (i := s) (m := (v 0 14 - s).toNat) (by omega) fun k k0 k1 => dr k k0 (by omega)
          omega
        · show (e - (v 0 14 + 1)).toNat < (e - v 0 14).toNat; omega
    · have ee : v 0 14 = e := by omega
      rw [if_neg (show ¬ isDg (C (v 0 14)) by rw [ee]; exact de), if_pos rfl]
      refine ok_ret (show Ok _ _ from ?_)
      rw [fld_eq, fld_eq, v15, ee, w32_sm (by omega)]
      by_cases g : e - s < 5
      · rw [if_pos g, put_eq]
        rw [if_pos (by omega)] at ht
        rw [ee] at hv17
        have a := hv17 (by omega)
        have b := nv_le (C := C) (i := s) (m := (e - s).toNat) (by omega) fun k k0 k1 => dr k k0 (by omega)
        refine ok_ret ⟨f.u0 (by decide), Or.inr (Or.inl ⟨ht.1, rfl, ?_, ?_, ?_⟩), v15.trans tp.symm, fun x => absurd x tk, fun _ => ⟨?_, ?_, ?_⟩⟩
        · show v 0 17 = t.2.1; rw [a, ht.2]
        · show 0 ≤ v 0 17; omega
        · show v 0 17 ≤ 9999; omega
        · show 0 ≤ v 0 14; omega
        · show v 0 14 ≤ n; omega
        · show TL C (v 0 14) L; rw [ee]; exact hL
      · rw [if_neg g]
        rw [if_neg (by omega)] at ht
        exact ok_ret ⟨f, Or.inr (Or.inr (Or.inr (Or.inr ⟨v16, Or.inl ht⟩))), v15.trans tp.symm, fun x => absurd x tk, fun _ => ⟨by omega, by omega, by rw [ee]; exact hL⟩⟩
  rw [if_neg d, if_neg l] at ht
  have ee : e = s + 1 := by
    unfold Ten at he
    rw [if_neg d, if_neg l] at he
    exact he
  subst ee
  rw [if_neg d, if_pos rfl, mMk_eq, bnd_some]
  by_cases m : isMk (C s)
  · rw [if_pos m, if_neg (by decide), put_eq]
    exact ok_ret ⟨f2.u0 (by decide), Or.inr (Or.inr (Or.inr (Or.inl ⟨rfl, (show u 0 17 = t.1 by rw [k17, ht]), (show isMk (u 0 17) by rw [k17]; exact m)⟩))), k15.trans tp.symm, fun x => absurd x tk, fun _ => ⟨(show 0 ≤ u 0 14 by omega), (show u 0 14 ≤ n by omega), (show TL C (u 0 14) L by rw [k14]; exact hL)⟩⟩
  · rw [if_neg m, if_pos rfl]
    exact ok_ret ⟨f2, Or.inr (Or.inr (Or.inr (Or.inr ⟨k16, Or.inr ⟨by omega, by omega, by rw [ht]; exact m⟩⟩))), k15.trans tp.symm, fun x => absurd x tk, fun _ => ⟨by omega, by omega, by rw [k14]; exact hL⟩⟩
