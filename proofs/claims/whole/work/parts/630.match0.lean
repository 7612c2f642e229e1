/-! MATCHED: the wishes -/
theorem sur5F : ∀ a b c d e : Fin 5, (a ≠ b ∧ a ≠ c ∧ a ≠ d ∧ a ≠ e ∧ b ≠ c ∧ b ≠ d ∧ b ≠ e ∧ c ≠ d ∧ c ≠ e ∧ d ≠ e) → ∀ v : Fin 5, v = a ∨ v = b ∨ v = c ∨ v = d ∨ v = e := by decide +kernel
theorem sur5 {a b c d e v : Int} (h : isP a b c d e) (v0 : 0 ≤ v) (v1 : v ≤ 4) : v = a ∨ v = b ∨ v = c ∨ v = d ∨ v = e := by
  unfold isP at h
  obtain ⟨⟨a0, a1, b0, b1, c0, c1, d0, d1, e0, e1⟩, h⟩ := h
  obtain ⟨a, rfl⟩ : ∃ n : Nat, a = n := ⟨a.toNat, by omega⟩
  obtain ⟨b, rfl⟩ : ∃ n : Nat, b = n := ⟨b.toNat, by omega⟩
  obtain ⟨c, rfl⟩ : ∃ n : Nat, c = n := ⟨c.toNat, by omega⟩
  obtain ⟨d, rfl⟩ : ∃ n : Nat, d = n := ⟨d.toNat, by omega⟩
  obtain ⟨e, rfl⟩ : ∃ n : Nat, e = n := ⟨e.toNat, by omega⟩
  obtain ⟨v, rfl⟩ : ∃ n : Nat, v = n := ⟨v.toNat, by omega⟩
  have k := sur5F ⟨a, by omega⟩ ⟨b, by omega⟩ ⟨c, by omega⟩ ⟨d, by omega⟩ ⟨e, by omega⟩ (by
    simp only [ne_eq, Fin.mk.injEq]
    omega) ⟨v, by omega⟩
  simp only [Fin.mk.injEq] at k
  omega
theorem nc0 : ((0 : Nat) : Int) = 0 := rfl
theorem nc1 : ((1 : Nat) : Int) = 1 := rfl
theorem nc2 : ((2 : Nat) : Int) = 2 := rfl
theorem nc3 : ((3 : Nat) : Int) = 3 := rfl
theorem nc4 : ((4 : Nat) : Int) = 4 := rfl
/-- who would have whom -/
def WP (f : Int → Int → Int) : Prop := ∀ w : Nat, w < 10 → isP (f w 0) (f w 1) (f w 2) (f w 3) (f w 4)
theorem five {P : Nat → Prop} (h0 : P 0) (h1 : P 1) (h2 : P 2) (h3 : P 3) (h4 : P 4) : ∀ k : Nat, k < 5 → P k := by
  intro k hk
  rcases (show k = 0 ∨ k = 1 ∨ k = 2 ∨ k = 3 ∨ k = 4 by omega) with rfl | rfl | rfl | rfl | rfl <;> assumption
theorem WP.bd {f : Int → Int → Int} (h : WP f) {w k : Nat} (hw : w < 10) (hk : k < 5) : 0 ≤ f w k ∧ f w k ≤ 4 := by
  have q := (h w hw).1
  exact five (P := fun k => 0 ≤ f w k ∧ f w k ≤ 4) ⟨q.1, q.2.1⟩ ⟨q.2.2.1, q.2.2.2.1⟩ ⟨q.2.2.2.2.1, q.2.2.2.2.2.1⟩ ⟨q.2.2.2.2.2.2.1, q.2.2.2.2.2.2.2.1⟩ ⟨q.2.2.2.2.2.2.2.2.1, q.2.2.2.2.2.2.2.2.2⟩ k hk
theorem WP.inj {f : Int → Int → Int} (h : WP f) {w k k' : Nat} (hw : w < 10) (hk : k < 5) (hk' : k' < 5) (e : f w k = f w k') : k = k' := by
  have q := (h w hw).2
  rcases (show k = 0 ∨ k = 1 ∨ k = 2 ∨ k = 3 ∨ k = 4 by omega) with rfl | rfl | rfl | rfl | rfl <;> rcases (show k' = 0 ∨ k' = 1 ∨ k' = 2 ∨ k' = 3 ∨ k' = 4 by omega) with rfl | rfl | rfl | rfl | rfl <;> first | rfl | (exfalso; simp only [nc0, nc1, nc2, nc3, nc4] at e; omega)
theorem WP.sur {f : Int → Int → Int} (h : WP f) {w : Nat} (hw : w < 10) {v : Int} (v0 : 0 ≤ v) (v1 : v ≤ 4) : ∃ k : Nat, k < 5 ∧ f w k = v := by
  rcases sur5 (h w hw) v0 v1 with e | e | e | e | e
  · exact ⟨0, by decide, e.symm⟩
  · exact ⟨1, by decide, e.symm⟩
  · exact ⟨2, by decide, e.symm⟩
  · exact ⟨3, by decide, e.symm⟩
  · exact ⟨4, by decide, e.symm⟩
/-- wishes found -/
def WF (f : Int → Int → Int) (τ : St) : Prop := ∀ w k : Nat, w < 10 → k < 5 → τ 25 (5 * (w : Int) + k) = f w k ∧ τ 24 (5 * (w : Int) + f w k) = k
def lfD (f : Int → Int → Int) (w : Nat) : Nat → Int
  | 0 => f w 0 * 10000 + f w 1 * 1000 + f w 2 * 100 + f w 3 * 10 + f w 4
  | 1 => f w 0 * 1000 + f w 1 * 100 + f w 2 * 10 + f w 3
  | 2 => f w 0 * 100 + f w 1 * 10 + f w 2
  | 3 => f w 0 * 10 + f w 1
  | 4 => f w 0
  | _ => 0
theorem m_finds {f : Int → Int → Int} {τ : St} (hf : WP f) (hN : ∀ w : Nat, w < 10 → τ 23 w + 1234 = f w 0 * 10000 + f w 1 * 1000 + f w 2 * 100 + f w 3 * 10 + f w 4) : Ok (fX12_findsWishes τ) fun _ τ' => Fm [24, 25] [] τ τ' ∧ WF f τ' := by
  unfold fX12_findsWishes
  rw [ko_bnd]
  refine for_ok 10 (fun w x t => x = (w : Int) ∧ Fm [24, 25] [] τ t ∧ ∀ w' k : Nat, w' < w → k < 5 → t 25 (5 * (w' : Int) + k) = f w' k ∧ t 24 (5 * (w' : Int) + f w' k) = k) (by decide) ⟨rfl, Fm.rf, fun w' k h => absurd h (Nat.not_lt_zero w')⟩ ?_ ?_
  · rintro w x t hw ⟨rfl, ft, hd⟩
    have wi := (wq4 (i := w) (by omega)).1
    have b0 := hf.bd (k := 0) hw (by decide)
    have b1 := hf.bd (k := 1) hw (by decide)
    have b2 := hf.bd (k := 2) hw (by decide)
    have b3 := hf.bd (k := 3) hw (by decide)
    have b4 := hf.bd (k := 4) hw (by decide)
    simp only [nc0, nc1, nc2, nc3, nc4] at b0 b1 b2 b3 b4
    have n := hN w hw
    have st : ∀ t : Nat, t < 5 → irm (lfD f w t) 10 = f w ((4 - t : Nat) : Int) ∧ idv (lfD f w t) 10 = lfD f w (t + 1) := by
      intro t ht
      rcases (show t = 0 ∨ t = 1 ∨ t = 2 ∨ t = 3 ∨ t = 4 by omega) with rfl | rfl | rfl | rfl | rfl <;> (simp only [lfD, Nat.reduceAdd, Nat.reduceSub, nc0, nc1, nc2, nc3, nc4]; rw [irm_nn (by omega), idv_nn (by omega) (by decide) (by omega)]; omega)
    have w0 : w32 (τ 23 (w : Int) + 1234) = lfD f w 0 := by
      rw [w32_sm (by omega)]
      exact n
    rw [ko_t (by omega), lod_eq (by omega), ko_lb, ft.1 23 (by decide) (by decide), w0, ko_bnd]
    refine for_ok 5 (fun j x s => x = (lfD f w j, 4 - (j : Int)) ∧ Fm [24, 25] [] τ s ∧ (∀ w' k : Nat, w' < w → k < 5 → s 25 (5 * (w' : Int) + k) = f w' k ∧ s 24 (5 * (w' : Int) + f w' k) = k) ∧ ∀ k : Nat, k < 5 → 5 ≤ k + j → s 25 (5 * (w : Int) + k) = f w k ∧ s 24 (5 * (w : Int) + f w k) = k) (by decide) ⟨rfl, ft, hd, fun k h1 h2 => by omega⟩ ?_ ?_
    · rintro j x s hj ⟨rfl, fs, h1, h2⟩
      obtain ⟨s1, s2⟩ := st j hj
      have bj := hf.bd (k := 4 - j) hw (by omega)
      have e4 : (4 : Int) - (j : Int) = ((4 - j : Nat) : Int) := by omega
      have i1 := Hd.m (show w32 (w32 (5 * (w : Int)) + ((4 - j : Nat) : Int)) = 5 * w + ((4 - j : Nat) : Int) by rw [w32_l, w32_sm (by omega)])
      have i2 := Hd.m (show w32 (w32 (5 * (w : Int)) + f w ((4 - j : Nat) : Int)) = 5 * w + f w ((4 - j : Nat) : Int) by rw [w32_l, w32_sm (by omega)])
      have i3 := Hd.m (show w32 (((4 - j : Nat) : Int) + -1) = 4 - ((j + 1 : Nat) : Int) by rw [w32_sm (by omega)]; omega)
      dsimp only
      rw [e4, ko_f (by omega), dvc_eq (by decide), s1, s2, i1.o, i2.o, i3.o, sto_eq (by omega), dvc_eq (by decide), sto_eq (by omega), dvc_eq (by decide), ko_lb, ko_some, ko_jl]
      refine ⟨rfl, (fs.up (by decide) (by decide)).up (by decide) (by decide), fun w' k hw' hk => ?_, fun k hk hk2 => ?_⟩
      · have b := hf.bd (w := w') (k := k) (by omega) hk
        simp only [up_g, true_and, and_true, false_and, and_false, Nat.reduceEqDiff, if_false, if_true]
        rw [if_neg (by omega), if_neg (by omega)]
        exact h1 w' k hw' hk
      · have b := hf.bd (w := w) (k := k) hw hk
        simp only [up_g, true_and, and_true, false_and, and_false, Nat.reduceEqDiff, if_false, if_true]
        by_cases e : k = 4 - j
        · rw [if_pos (by omega), e, if_pos rfl]
          exact ⟨rfl, rfl⟩
        · have ne : f w k ≠ f w ((4 - j : Nat) : Int) := fun q => e (hf.inj hw hk (by omega) q)
          rw [if_neg (by omega), if_neg (by omega)]
          exact h2 k hk (by omega)
    · rintro x s ⟨rfl, fs, h1, h2⟩
      dsimp only
      rw [ko_t (by decide), ko_some, ko_jr, ko_some, ko_jl, wi.o]
      refine ⟨rfl, fs, fun w' k hw' hk => ?_⟩
      by_cases e : w' = w
      · rw [e]
        exact h2 k hk (by omega)
      · exact h1 w' k (by omega) hk
  · rintro x t ⟨rfl, ft, hd⟩
    rw [ko_f (by decide), ko_some, ko_jr, ko_some]
    exact ⟨ft, fun w k hw hk => hd w k hw hk⟩
/-- how dear one is: for the class -/
theorem c_rank {f : Int → Int → Int} {σ τ : St} {s i : Nat} {o : Int} (hf : WP f) (w0 : σ 28 0 = 5) (w2 : σ 28 2 = 10) (hw : ∀ w k : Nat, w < 10 → k < 5 → σ 29 ((w : Int) * 5 + k) = f w k) (hW : WF f τ) (hs : 5 * s + i < 10) (o0 : 0 ≤ o) (o1 : o ≤ 4) : fX0_rank s i o σ = some (τ 24 (5 * ((5 * s + i : Nat) : Int) + o), σ) := by
  obtain ⟨k, hk, rfl⟩ := hf.sur hs o0 o1
  have hd := (hW _ k hs hk).2
  apply ok_eq
  unfold fX0_rank
  rw [ko_bnx, hd]
  have e5 := Hd.m (show w32 (w32 (5 * (s : Int)) + (i : Int)) = ((5 * s + i : Nat) : Int) by rw [w32_l, w32_sm (by omega)]; omega)
  have gt : ∀ j : Nat, j < 5 → fX6_get 28 29 50 ((5 * s + i : Nat) : Int) (j : Int) σ = some (f ((5 * s + i : Nat) : Int) j, σ) := fun j hj => by
    rw [row_get w0 (by decide) (by omega) (by decide), w2, if_pos (by omega), hw _ j hs hj]
  refine while_ok (fun x t => σ = t ∧ ∃ j : Nat, x = (j : Int) ∧ j ≤ k) (fun x _ => (5 - x).toNat) ⟨rfl, 0, rfl, Nat.zero_le k⟩ (by show (5 - (0 : Int)).toNat < _; decide) ?_
  rintro x _ ⟨rfl, j, rfl, hj⟩
  have wi := (wq4 (i := j) (by omega)).1
  rw [ko_t (by omega), e5.o, gt j (by omega), bnd_some]
  by_cases e : f ((5 * s + i : Nat) : Int) j = f ((5 * s + i : Nat) : Int) k
  · have := hf.inj hs (by omega) hk e
    subst this
    rw [ko_t rfl, ko_some, ko_jr, ko_jl, ko_some]
    exact ⟨rfl, rfl⟩
  · have ne : j ≠ k := fun q => e (by rw [q])
    rw [ko_f e, ko_some, ko_jl, wi.o]
    exact ⟨⟨rfl, j + 1, rfl, by omega⟩, by show (5 - ((j + 1 : Nat) : Int)).toNat < (5 - (j : Int)).toNat; omega⟩
theorem c_pref {f : Int → Int → Int} {σ τ : St} {s i : Nat} {o o' : Int} (hf : WP f) (w0 : σ 28 0 = 5) (w2 : σ 28 2 = 10) (hw : ∀ w k : Nat, w < 10 → k < 5 → σ 29 ((w : Int) * 5 + k) = f w k) (hW : WF f τ) (hs : 5 * s + i < 10) (o0 : 0 ≤ o) (o1 : o ≤ 4) (p0 : 0 ≤ o') (p1 : o' ≤ 4) : fX0_prefers s i o o' σ = some (if τ 24 (5 * ((5 * s + i : Nat) : Int) + o) < τ 24 (5 * ((5 * s + i : Nat) : Int) + o') then 1 else 0, σ) := by
  unfold fX0_prefers
  rw [c_rank hf w0 w2 hw hW hs o0 o1, bnd_some, c_rank hf w0 w2 hw hW hs p0 p1, bnd_some]
  split <;> rfl
