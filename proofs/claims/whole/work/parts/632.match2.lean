/-! MATCHED: one asks, on both sides -/
/-- the two say the same -/
def EQh (σ τ : St) : Prop := ∀ j : Nat, j < 5 → σ 155 j = τ 26 j ∧ σ 154 j = τ 27 j
theorem ask2 {f : Int → Int → Int} {a i m T : Nat} {σ τ : St} (hf : WP f) (w0 : σ 28 0 = 5) (w2 : σ 28 2 = 10) (hw : ∀ w k : Nat, w < 10 → k < 5 → σ 29 ((w : Int) * 5 + k) = f w k) (hW : WF f τ) (ha : a < 2) (hi : i < 5) (hm : m ≤ i) (hE : ENg f a (i + 1) m τ T) (hq : EQh σ τ) :
    ∃ σ' τ' fr' F', fX0_ask a m σ = some (fr', σ') ∧ mbE a (w32 (1 - (a : Int))) ((fsN i m : Nat) : Int) τ = some (.inl F', τ') ∧ Fr [154, 155] σ σ' ∧ Fm [26, 27] [] τ τ' ∧ EQh σ' τ' ∧ ENg f a (i + 1) fr' τ' (T + 1) ∧ ((fr' = -1 ∧ F' = ((32 - 2 ^ (i + 1) : Nat) : Int)) ∨ ∃ m' : Nat, m' ≤ i ∧ fr' = m' ∧ F' = ((fsN i m' : Nat) : Int)) := by
  have hA4 := hE.less hf ha (by omega) (by omega)
  have hE' := hE
  obtain ⟨g1, g2, g3, g4, g5⟩ := hE'
  have am := g2 m (by omega)
  obtain ⟨k, hk⟩ : ∃ k : Nat, τ 27 (m : Int) = k := ⟨(τ 27 (m : Int)).toNat, by omega⟩
  have k5 : k < 5 := by omega
  have jb := hf.bd (w := 5 * a + m) (k := k) (by omega) k5
  obtain ⟨j, hj⟩ : ∃ j : Nat, f ((5 * a + m : Nat) : Int) k = j := ⟨(f ((5 * a + m : Nat) : Int) k).toNat, by omega⟩
  have j5 : j < 5 := by omega
  have qm := (hq m (by omega)).2
  have qj := (hq j j5).1
  have hH := g1 j j5
  have x1 := Hd.m (show w32 (w32 (5 * (a : Int)) + (m : Int)) = ((5 * a + m : Nat) : Int) by rw [w32_l, w32_sm (by omega)]; omega)
  have x2 := Hd.m (show w32 (w32 (5 * ((5 * a + m : Nat) : Int)) + (k : Int)) = 5 * ((5 * a + m : Nat) : Int) + k by rw [w32_l, w32_sm (by omega)])
  have x3 := Hd.m (show w32 ((k : Int) + 1) = (k : Int) + 1 from w32_sm (by omega))
  have x4 := Hd.m (show w32 (1 - (a : Int)) = ((1 - a : Nat) : Int) by rw [w32_sm (by omega)]; omega)
  have x5 := Hd.m (show w32 (w32 (5 * ((1 - a : Nat) : Int)) + (j : Int)) = ((5 * (1 - a) + j : Nat) : Int) by rw [w32_l, w32_sm (by omega)]; omega)
  have gt : fX6_get 28 29 50 ((5 * a + m : Nat) : Int) (k : Int) σ = some ((j : Int), σ) := by
    rw [row_get w0 (by decide) (by omega) (by decide), w2, if_pos (by omega), hw _ k (by omega) k5, hj]
  have r25 : τ 25 (5 * ((5 * a + m : Nat) : Int) + k) = j := by rw [(hW _ k (by omega) k5).1, hj]
  obtain ⟨b1, b2, b3⟩ := fs_hit i hi m (by omega)
  -- the reference up to the one that is asked
  have find : ∀ s : St, itr FUEL (fun (x14 : Int) s15 =>
bnd (fX12_has ((fsN i m : Nat) : Int) x14 s15) fun r17 s18 =>
if r17 = 0 then (
lb (w32 (x14 + 1)) fun v20 =>
some (.inl v20, s18))
else
(some (.inr x14, s18) : Rs (Int ⊕ Int))) 0 s = some ((m : Int), s) := by
    intro s
    apply ok_eq
    refine for_ok m (fun t x s' => x = (t : Int) ∧ s' = s) (by omega) ⟨rfl, rfl⟩ ?_ ?_
    · rintro t x s' ht ⟨rfl, rfl⟩
      rw [has_eq, bnd_some, if_neg (fs_low i hi m (by omega) t ht), ko_t rfl, ko_lb, ko_some, ko_jl, w32_nat (by omega)]
      exact ⟨rfl, rfl⟩
    · rintro x s' ⟨rfl, rfl⟩
      rw [has_eq, bnd_some, if_pos b1, ko_f (by decide), ko_some, ko_jr]
      exact ⟨rfl, rfl⟩
  have u27 : ∀ x : Nat, x < 5 → up τ 27 (m : Int) ((k : Int) + 1) 27 x = if x = m then τ 27 x + 1 else τ 27 x := fun x _ => by
    simp only [up_g, true_and, and_true, false_and, and_false, Nat.reduceEqDiff, if_false, if_true]
    by_cases e : x = m
    · rw [if_pos (by omega), if_pos e, e, hk]
    · rw [if_neg (by omega), if_neg e]
  have new : ∀ (v : Int) (τ' : St), τ' 26 = up τ 26 (j : Int) v 26 → v ≠ -1 → ∀ y : Nat, y < 5 → f ((5 * a + m : Nat) : Int) (τ 27 (m : Int)) = y → τ' 26 y ≠ -1 := fun v τ' e hv y hy ey => by
    rw [hk, hj] at ey
    rw [e, ← ey, up_at, if_pos rfl]
    exact hv
  have set1 : ∀ (o : Int) (σ' τ' : St), (τ 26 (j : Int) = o) → (o = -1 ∨ 0 ≤ o) → σ' = up (up σ 154 (m : Int) ((k : Int) + 1)) 155 (j : Int) (m : Int) → τ' = up (up τ 27 (m : Int) ((k : Int) + 1)) 26 (j : Int) (m : Int) → EQh σ' τ' ∧ ENg f a (i + 1) o τ' (T + 1) := by
    rintro o σ' τ' ho hoo rfl rfl
    refine ⟨fun x hx => ?_, hE.sum (fr' := o) (by omega) u27 hA4 (fun y hy => ?_) (fun y y' hy hy' e ne => ?_) (fun y hy h => ?_) (new m _ rfl (by omega))⟩
    · have q := hq x hx
      simp only [up_g, true_and, and_true, false_and, and_false, Nat.reduceEqDiff, if_false, if_true]
      refine ⟨?_, ?_⟩
      · split
        · rfl
        · exact q.1
      · split
        · rfl
        · exact q.2
    · have q := g1 y hy
      simp only [up_g, true_and, and_true, false_and, and_false, Nat.reduceEqDiff, if_false, if_true]
      by_cases e : y = j
      · rw [if_pos (by omega)]
        right
        refine ⟨by omega, by omega, ?_⟩
        omega
      · rw [if_neg (by omega)]
        rcases q with q | ⟨q1, q2, q3⟩
        · exact Or.inl q
        · refine Or.inr ⟨q1, q2, fun z => ?_⟩
          rcases hoo with z2 | z2
          · omega
          · exact e (g3 y j hy j5 (by rw [z, ho]) (by omega))
    · simp only [up_g, true_and, and_true, false_and, and_false, Nat.reduceEqDiff, if_false, if_true] at e ne
      by_cases e1 : y = j
      · by_cases e2 : y' = j
        · rw [e1, e2]
        · rw [if_pos (by omega), if_neg (by omega)] at e
          have := g1 y' hy'
          omega
      · by_cases e2 : y' = j
        · rw [if_neg (by omega), if_pos (by omega)] at e
          have := g1 y hy
          omega
        · rw [if_neg (by omega), if_neg (by omega)] at e
          rw [if_neg (by omega)] at ne
          exact g3 y y' hy hy' e ne
    · simp only [up_g, true_and, and_true, false_and, and_false, Nat.reduceEqDiff, if_false, if_true]
      split
      · omega
      · exact h
  have fxs : Fr [154, 155] σ (up (up σ 154 (m : Int) ((k : Int) + 1)) 155 (j : Int) (m : Int)) := (Fr.rf.up (by decide)).up (by decide)
  have fms : Fm [26, 27] [] τ (up (up τ 27 (m : Int) ((k : Int) + 1)) 26 (j : Int) (m : Int)) := (Fm.rf.up (by decide) (by decide)).up (by decide) (by decide)
  have e155 : up σ 154 (m : Int) ((k : Int) + 1) 155 (j : Int) = τ 26 (j : Int) := qj
  have e26 : up τ 27 (m : Int) ((k : Int) + 1) 26 (j : Int) = τ 26 (j : Int) := rfl
  have clsA : fX0_ask a m σ = (if τ 26 (j : Int) = -1 then sto (up σ 154 (m : Int) ((k : Int) + 1)) 155 5 (j : Int) (m : Int) fun s14 => some (τ 26 (j : Int), s14) else bnd (fX0_prefers (w32 (1 - (a : Int))) (j : Int) (τ 26 (j : Int)) (m : Int) (up σ 154 (m : Int) ((k : Int) + 1))) fun r15 s16 => if r15 = 0 then sto s16 155 5 (j : Int) (m : Int) fun s18 => some (τ 26 (j : Int), s18) else some ((m : Int), s16)) := by
    unfold fX0_ask
    rw [lod_eq (by omega), x1.o, qm, hk, gt, bnd_some, within_eq, if_pos (show (0 : Int) ≤ (j : Int) ∧ (j : Int) ≤ 4 by omega), bnd_some, if_neg (show ¬ ((1 : Int) = 0) by decide), lod_eq (by omega), qm, hk, x3.o, sto_eq (by omega), lod_eq (by omega), e155]
  have refA : mbE a (w32 (1 - (a : Int))) ((fsN i m : Nat) : Int) τ = (bnx (if τ 26 (j : Int) = -1 then some (.inl (), up τ 27 (m : Int) ((k : Int) + 1)) else lod (up τ 27 (m : Int) ((k : Int) + 1)) 24 50 (w32 (w32 (5 * ((5 * (1 - a) + j : Nat) : Int)) + τ 26 (j : Int))) fun v34 => lod (up τ 27 (m : Int) ((k : Int) + 1)) 24 50 (w32 (w32 (5 * ((5 * (1 - a) + j : Nat) : Int)) + (m : Int))) fun v36 => if v34 < v36 then some (.inr (.inl ((fsN i m : Nat) : Int)), up τ 27 (m : Int) ((k : Int) + 1)) else some (.inl (), up τ 27 (m : Int) ((k : Int) + 1))) fun (_ : Unit) s39 => sto s39 26 5 (j : Int) (m : Int) fun s41 => lb ((32 - 2 ^ (i + 1) : Nat) : Int) fun v42 => if τ 26 (j : Int) = -1 then some (.inl v42, s41) else lb (ior v42 (ishl 1 (τ 26 (j : Int)))) fun v44 => some (.inl v44, s41) : Rs (Int ⊕ Unit)) := by
    unfold mbE
    rw [if_neg (by omega), find τ, bnd_some, lod_eq (by omega), x1.o, hk, x2.o, lod_eq (by omega), r25, lod_eq (by omega), hk, x3.o, sto_eq (by omega), lod_eq (by omega), e26, b2, x4.o, x5.o]
  rw [clsA, refA]
  by_cases c : τ 26 (j : Int) = -1
  · obtain ⟨z1, z2⟩ := set1 (-1) _ _ c (Or.inl rfl) rfl rfl
    refine ⟨_, _, -1, _, ?_, ?_, fxs, fms, z1, z2, Or.inl ⟨rfl, rfl⟩⟩
    · rw [if_pos c, sto_eq (by omega), c]
    · rw [if_pos c, bnx_inl, sto_eq (by omega), lb_eq, if_pos c]
  · have ob : 0 ≤ τ 26 (j : Int) ∧ τ 26 (j : Int) < ((i + 1 : Nat) : Int) ∧ τ 26 (j : Int) ≠ m := by
      rcases hH with q | q
      · exact absurd q c
      · exact q
    obtain ⟨o, ho⟩ : ∃ o : Nat, τ 26 (j : Int) = o := ⟨(τ 26 (j : Int)).toNat, by omega⟩
    have y1 := Hd.m (show w32 (w32 (5 * ((5 * (1 - a) + j : Nat) : Int)) + (o : Int)) = 5 * ((5 * (1 - a) + j : Nat) : Int) + o by rw [w32_l, w32_sm (by omega)])
    have y2 := Hd.m (show w32 (w32 (5 * ((5 * (1 - a) + j : Nat) : Int)) + (m : Int)) = 5 * ((5 * (1 - a) + j : Nat) : Int) + m by rw [w32_l, w32_sm (by omega)])
    have pf := c_pref (f := f) (σ := up σ 154 (m : Int) ((k : Int) + 1)) (τ := τ) (s := 1 - a) (i := j) (o := (o : Int)) (o' := (m : Int)) hf w0 w2 hw hW (by omega) (by omega) (by omega) (by omega) (by omega)
    have l1 : up τ 27 (m : Int) ((k : Int) + 1) 24 (5 * ((5 * (1 - a) + j : Nat) : Int) + o) = τ 24 (5 * ((5 * (1 - a) + j : Nat) : Int) + o) := rfl
    have l2 : up τ 27 (m : Int) ((k : Int) + 1) 24 (5 * ((5 * (1 - a) + j : Nat) : Int) + m) = τ 24 (5 * ((5 * (1 - a) + j : Nat) : Int) + m) := rfl
    have oc : ¬ (o : Int) = -1 := by omega
    rw [if_neg c, ho, x4.o, pf, bnd_some, if_neg oc, y1.o, y2.o, lod_eq (by omega), lod_eq (by omega), l1, l2]
    by_cases d : τ 24 (5 * ((5 * (1 - a) + j : Nat) : Int) + o) < τ 24 (5 * ((5 * (1 - a) + j : Nat) : Int) + m)
    · rw [if_pos d, if_pos d, if_neg (show ¬ ((1 : Int) = 0) by decide), bnx_inr]
      refine ⟨_, _, _, _, rfl, rfl, Fr.rf.up (by decide), Fm.rf.up (by decide) (by decide), fun x hx => ?_, hE.sum (by omega) u27 hA4 g1 g3 (fun _ _ h => h) (fun y hy ey => ?_), Or.inr ⟨m, hm, rfl, rfl⟩⟩
      · have q := hq x hx
        simp only [up_g, true_and, and_true, false_and, and_false, Nat.reduceEqDiff, if_false, if_true]
        refine ⟨q.1, ?_⟩
        split
        · rfl
        · exact q.2
      · rw [hk, hj] at ey
        show τ 26 (y : Int) ≠ -1
        rw [← ey]
        exact c
    · obtain ⟨z1, z2⟩ := set1 o _ _ ho (Or.inr (by omega)) rfl rfl
      rw [if_neg d, if_neg d, if_pos rfl, bnx_inl, sto_eq (by omega), sto_eq (by omega), lb_eq, if_neg (by omega), lb_eq, fs_or i hi o (by omega)]
      exact ⟨_, _, _, _, rfl, rfl, fxs, fms, z1, z2, Or.inr ⟨o, by omega, rfl, rfl⟩⟩
