/-! STORM: the reference, the fewest -/
theorem clr_bit : ∀ s : Nat, s < 256 → ∀ k : Nat, k < 8 → s.testBit k = true → iand (s : Int) (ixor (ishl 1 (k : Int)) (-1)) = ((s - 2 ^ k : Nat) : Int) := by decide +kernel
theorem withFamily_eq {a v c : Int} {σ : St} (ha : 0 ≤ a ∧ a ≤ 100000) (hv : 1 ≤ v ∧ v ≤ 9) : fX12_withFamily a v c σ = some (wFv a v c, σ) := by
  have e1 : idv a 100 = a / 100 := idv_nn (by omega) (by omega) (by omega)
  have e2 : irm a 100 = a % 100 := irm_nn (by omega)
  have k1 := Hd.m (show w32 (a % 100 + v) = a % 100 + v from w32_sm (by omega))
  have k2 := Hd.m (show w32 (w32 (100 * w32 (a / 100 + 1)) + v) = 100 * (a / 100 + 1) + v by rw [w32_sm (x := a / 100 + 1) (by omega), w32_sm (x := 100 * (a / 100 + 1)) (by omega), w32_sm (by omega)])
  have k3 := Hd.m (show w32 (w32 (w32 (100 * (a / 100)) + a % 100) + v) = a + v by rw [w32_sm (x := 100 * (a / 100)) (by omega), w32_sm (x := 100 * (a / 100) + a % 100) (by omega), w32_sm (by omega)]; omega)
  unfold fX12_withFamily wFv
  rw [dvc_eq (by decide), lb_eq, dvc_eq (by decide), lb_eq, e1, e2, k1.o, k2.o, k3.o]
  by_cases c1 : 0 < a / 100
  · rw [if_pos c1]
    by_cases c2 : c < a % 100 + v
    · rw [if_pos c2, if_neg (by omega)]
    · rw [if_neg c2, if_pos (by omega)]
  · rw [if_neg c1, if_neg fun x => c1 x.1]
/-- the best so far, of the ones below j -/
def FMR (f w : Int → Int) (c : Int) (S : Nat) (v : Int) (j : Nat) : Prop := (v = 100000000 ∧ ∀ x, x < j → S.testBit x = false) ∨ ((∃ x, x < j ∧ S.testBit x = true ∧ v = wFv (f ((S - 2 ^ x : Nat) : Int)) (w x) c) ∧ ∀ x, x < j → S.testBit x = true → v ≤ wFv (f ((S - 2 ^ x : Nat) : Int)) (w x) c)
theorem FMR.no {f w : Int → Int} {c v : Int} {S j : Nat} (h : FMR f w c S v j) (hb : S.testBit j = false) : FMR f w c S v (j + 1) := by
  have lt : ∀ x, x < j + 1 → S.testBit x = true → x < j := fun x hx hx2 => by
    by_cases e : x = j
    · rw [e, hb] at hx2
      cases hx2
    · omega
  rcases h with ⟨h1, h2⟩ | ⟨⟨x, x1, x2, x3⟩, h2⟩
  · refine Or.inl ⟨h1, fun x hx => ?_⟩
    by_cases e : x = j
    · rw [e]; exact hb
    · exact h2 x (by omega)
  · exact Or.inr ⟨⟨x, by omega, x2, x3⟩, fun y hy hy2 => h2 y (lt y hy hy2) hy2⟩
theorem FMR.yes {f w : Int → Int} {c v : Int} {S j : Nat} (h : FMR f w c S v j) (hb : S.testBit j = true) (hlt : wFv (f ((S - 2 ^ j : Nat) : Int)) (w j) c < 100000000) : FMR f w c S (imn v (wFv (f ((S - 2 ^ j : Nat) : Int)) (w j) c)) (j + 1) := by
  unfold imn
  have lt : ∀ x, x < j + 1 → x ≠ j → x < j := fun x hx hx2 => by omega
  rcases h with ⟨h1, h2⟩ | ⟨⟨x, x1, x2, x3⟩, h2⟩
  · rw [if_pos (by rw [h1]; exact hlt)]
    refine Or.inr ⟨⟨j, Nat.lt_succ_self j, hb, rfl⟩, fun y hy hy2 => ?_⟩
    by_cases e : y = j
    · rw [e]
      exact Int.le_refl _
    · rw [h2 y (lt y hy e)] at hy2
      cases hy2
  · by_cases d : wFv (f ((S - 2 ^ j : Nat) : Int)) (w j) c < v
    · rw [if_pos d]
      refine Or.inr ⟨⟨j, Nat.lt_succ_self j, hb, rfl⟩, fun y hy hy2 => ?_⟩
      by_cases e : y = j
      · rw [e]
        exact Int.le_refl _
      · exact Int.le_trans (Int.le_of_lt d) (h2 y (lt y hy e) hy2)
    · rw [if_neg d]
      refine Or.inr ⟨⟨x, by omega, x2, x3⟩, fun y hy hy2 => ?_⟩
      by_cases e : y = j
      · rw [e]
        exact Int.not_lt.mp d
      · exact h2 y (lt y hy e) hy2
theorem wFv_bd {a v c : Int} (ha : 0 ≤ a ∧ a ≤ 100000) (hv : 1 ≤ v ∧ v ≤ 9) : 0 ≤ wFv a v c ∧ wFv a v c < 200000 := by
  unfold wFv
  split <;> omega
theorem m_fewest {τ : St} {m : Nat} {c : Int} (w1 : τ 0 58 = m) (hm : m ≤ 8) (hw : ∀ k : Nat, k < m → 1 ≤ τ 36 k ∧ τ 36 k ≤ 9) (hc : 1 ≤ c ∧ c ≤ 30) : Ok (fX12_fewestPorches c τ) fun r τ' => Fm [37] [] τ τ' ∧ GF (τ 36) m c r (2 ^ m - 1) := by
  have pm := p256 hm
  unfold fX12_fewestPorches
  rw [ko_bnx]
  refine for_ok m (fun i x t => τ = t ∧ x = (i : Int) ∧ ∀ k : Nat, k < i → τ 36 k ≤ c) (by omega) ⟨rfl, rfl, fun k hk => absurd hk (Nat.not_lt_zero k)⟩ ?_ ?_
  · rintro i x _ hi ⟨rfl, rfl, hk⟩
    have wi := (wq4 (i := i) (by omega)).1
    rw [ko_fld, w1, ko_t (by omega), lod_eq (by omega)]
    by_cases d : c < τ 36 (i : Int)
    · rw [ko_t d, ko_some, ko_jr, ko_jr]
      refine ⟨Fm.rf, Or.inl ⟨rfl, fun k hk => ?_⟩⟩
      have := PkS_fit hw hi hk (by rw [Nat.testBit_two_pow_sub_one]; exact decide_eq_true hi)
      omega
    · rw [ko_f d, ko_some, ko_jl, wi.o]
      refine ⟨rfl, rfl, fun k hk2 => ?_⟩
      by_cases e : k = i
      · rw [e]; omega
      · exact hk k (by omega)
  rintro x _ ⟨rfl, rfl, hk⟩
  rw [ko_fld, w1, ko_f (Int.lt_irrefl _), ko_some, ko_jr, ko_jl, sto_eq (by decide), ko_bnd]
  have fm0 : Fm [37] [] τ (up τ 37 0 0) := Fm.rf.up (by decide) (by decide)
  have c0 : 0 ≤ c := by omega
  refine for_ok (2 ^ m - 1) (fun i x t => x = ((i + 1 : Nat) : Int) ∧ Fm [37] [] τ t ∧ ∀ T : Nat, T < i + 1 → RGv (τ 36) m c (t 37 T) T) (by omega) ⟨rfl, fm0, fun T hT => ?_⟩ ?_ ?_
  · have : T = 0 := by omega
    subst this
    exact RGv.zero hw c0
  · rintro i x t hi ⟨rfl, ft, hT⟩
    have wn := Hd.m (show w32 (((i + 1 : Nat) : Int) + 1) = ((i + 1 + 1 : Nat) : Int) from w32_nat (by omega))
    have e58 : t 0 58 = m := (ft.2 58 (by decide)).trans w1
    rw [ko_fld, e58, ishl_one m (by omega), ko_t (by omega), sto_eq (by omega), ko_bnd]
    have f1 : Fm [37] [] τ (up t 37 ((i + 1 : Nat) : Int) 100000000) := ft.up (by decide) (by decide)
    have keep : ∀ v : Int, ∀ T : Nat, T < i + 1 → up t 37 ((i + 1 : Nat) : Int) v 37 T = t 37 T := fun v T h => by
      simp only [up_g, true_and, and_true, false_and, and_false, Nat.reduceEqDiff, if_false, if_true]
      rw [if_neg (by omega)]
    refine ok_mono (P := fun _ s => Fm [37] [] τ s ∧ (∀ T : Nat, T < i + 1 → s 37 T = t 37 T) ∧ FMR (t 37) (τ 36) c (i + 1) (s 37 ((i + 1 : Nat) : Int)) m) ?_ ?_
    · refine for_ok m (fun j x s => x = (j : Int) ∧ Fm [37] [] τ s ∧ (∀ T : Nat, T < i + 1 → s 37 T = t 37 T) ∧ FMR (t 37) (τ 36) c (i + 1) (s 37 ((i + 1 : Nat) : Int)) j) (by omega) ⟨rfl, f1, keep _, Or.inl ⟨(by (simp only [up_g, Nat.reduceAdd, true_and, and_true, false_and, and_false, Nat.reduceEqDiff, if_false, if_true]) <;> (repeat (first | rw [if_neg (by omega)] | rw [if_pos (by omega)])) <;> (first | assumption | omega)), fun x hx => absurd hx (Nat.not_lt_zero x)⟩⟩ ?_ ?_
      · rintro j x s hj ⟨rfl, fs, ks, hF⟩
        have wj := (wq4 (i := j) (by omega)).1
        have s58 : s 0 58 = m := (fs.2 58 (by decide)).trans w1
        have hb := bit_nat (a := i + 1) (k := j) (by omega) (by omega)
        rw [ko_fld, s58, ko_t (by omega), has_eq, bnd_some, hb]
        cases b : (i + 1).testBit j with
        | false =>
          rw [if_neg (show ¬ (false = true) by decide), if_neg (show ¬ ((0 : Int) = 1) by decide), ko_t rfl, ko_some, ko_jl, wj.o]
          exact ⟨rfl, fs, ks, hF.no b⟩
        | true =>
          have pw := (sub_half (pow_sub b)).2.2
          have pp : 0 < 2 ^ j := Nat.two_pow_pos j
          have hv := hw j hj
          have hR := (hT (i + 1 - 2 ^ j) (by omega)).bd hw ⟨c0, hc.2⟩
          have bd := wFv_bd (a := t 37 ((i + 1 - 2 ^ j : Nat) : Int)) (v := τ 36 j) (c := c) (by omega) hv
          rw [if_pos (show true = true from rfl), if_pos (show (1 : Int) = 1 from rfl), ko_f (show ¬ ((1 : Int) = 0) by decide), lod_eq (by omega), clr_bit (i + 1) (by omega) j (by omega) b, lod_eq (by omega), ks _ (by omega), lod_eq (by omega), fs.1 36 (by decide) (by decide), withFamily_eq (by omega) hv, bnd_some, lesser_eq, bnd_some, sto_eq (by omega), ko_some, ko_jl, wj.o]
          refine ⟨rfl, fs.up (by decide) (by decide), fun T h => ?_, ?_⟩
          · simp only [up_g, true_and, and_true, false_and, and_false, Nat.reduceEqDiff, if_false, if_true]
            rw [if_neg (by omega)]
            exact ks T h
          · have e : up s 37 ((i + 1 : Nat) : Int) (imn (s 37 ((i + 1 : Nat) : Int)) (wFv (t 37 ((i + 1 - 2 ^ j : Nat) : Int)) (τ 36 j) c)) 37 ((i + 1 : Nat) : Int) = imn (s 37 ((i + 1 : Nat) : Int)) (wFv (t 37 ((i + 1 - 2 ^ j : Nat) : Int)) (τ 36 j) c) := (by (simp only [up_g, Nat.reduceAdd, true_and, and_true, false_and, and_false, Nat.reduceEqDiff, if_false, if_true]) <;> (repeat (first | rw [if_neg (by omega)] | rw [if_pos (by omega)])) <;> (first | assumption | omega))
            rw [e]
            exact hF.yes b (by omega)
      · rintro x s ⟨rfl, fs, ks, hF⟩
        have s58 : s 0 58 = m := (fs.2 58 (by decide)).trans w1
        rw [ko_fld, s58, ko_f (Int.lt_irrefl _), ko_some, ko_jr]
        exact ⟨fs, ks, hF⟩
    · rintro _ s ⟨fs, ks, hF⟩
      rw [ko_some, ko_jl, wn.o]
      refine ⟨rfl, fs, fun T hT2 => ?_⟩
      by_cases e : T = i + 1
      · subst e
        obtain ⟨x, x1, x2⟩ := bit_ex (Nat.succ_pos i) (show i + 1 < 2 ^ m by omega)
        rcases hF with ⟨_, h⟩ | ⟨h1, h2⟩
        · rw [h x x1] at x2
          cases x2
        · exact RGv.step hw hk hc (Nat.succ_pos i) (by omega) hT h1 h2
      · rw [ks T (by omega)]
        exact hT T (by omega)
  · rintro x t ⟨rfl, ft, hT⟩
    have e58 : t 0 58 = m := (ft.2 58 (by decide)).trans w1
    have hR := hT (2 ^ m - 1) (by omega)
    have bd := hR.bd hw ⟨c0, hc.2⟩
    rw [ko_fld, e58, ishl_one m (by omega), ko_f (by omega), ko_some, ko_jr, ko_fld, e58, ishl_one m (by omega), w32_sm (x := ((2 ^ m : Nat) : Int) - 1) (by omega), show ((2 ^ m : Nat) : Int) - 1 = ((2 ^ m - 1 : Nat) : Int) by omega, lod_eq (by omega), dvc_eq (by decide), ko_some, idv_nn (by omega) (by decide) (by omega)]
    exact ⟨ft, hR.gf hw hc⟩
