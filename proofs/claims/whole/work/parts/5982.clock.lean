/-! a minute: the clock -/
theorem up_commi {σ : St} {k : Nat} {i1 v1 i2 v2 : Int} (h : i1 ≠ i2) : up (up σ k i1 v1) k i2 v2 = up (up σ k i2 v2) k i1 v1 := by
  funext k' i
  simp only [up_g]
  by_cases a : k' = k ∧ i = i2
  · rw [if_pos a, if_neg (fun b => h (b.2.symm.trans a.2)), if_pos a]
  · rw [if_neg a, if_neg a]
theorem getsUp_eq {p : Int} {τ : St} (p0 : 0 ≤ p) (p1 : p < 20) : fX12_getsUp p τ = some (0, up (up (up τ 1 (41 + p) 0) 1 (61 + p) 0) 1 (81 + p) 0) := by
  have w41 := Hd.m (show w32 (41 + p) = 41 + p from w32_sm (by omega))
  have w61 := Hd.m (show w32 (61 + p) = 61 + p from w32_sm (by omega))
  have w81 := Hd.m (show w32 (81 + p) = 81 + p from w32_sm (by omega))
  have s161 : ∀ {β : Type} {σ : St} {i v : Int} {g : St → Rs β}, 0 ≤ i ∧ i < 161 → sto σ 1 161 i v g = g (up σ 1 i v) := fun {β σ i v g} h => sto_eq (by omega)
  unfold fX12_getsUp
  rw [w41.o, w61.o, w81.o, s161 (by omega), s161 (by omega), s161 (by omega)]
theorem clock2 {t : Int} {σ τ : St} (h : MQm t σ τ) {n : Int} {α : Type} {k1 : Int → St → Rs α} {P : α → St → Int → St → Prop} (hk : ∀ r σ' τ', Mv t σ τ σ' τ' → Ok2 (k1 r σ') (some (n, τ')) P) : Ok2 (bnd (fX1_turnClock σ) k1) (lod τ 1 161 1 fun v86 =>
dvc 60 <|
sto τ 1 161 1 (irm (w32 (v86 + 1)) 60) fun s89 =>
lod s89 1 161 1 fun v90 =>
if 0 < v90 then (
some (n, s89))
else
bnd (itr FUEL (fun (x92 : Int) s93 =>
fld s93 0 7 fun v95 =>
if x92 < v95 then (
bnd (fX12_getsUp x92 s93) fun r97 s98 =>
some (.inl (w32 (x92 + 1)), s98))
else
(some (.inr (), s93) : Rs (Int ⊕ Unit))) 0 s89) fun (y100 : Unit) s101 =>
lod s101 1 161 0 fun v103 =>
sto s101 1 161 0 (w32 (v103 + 1)) fun s105 =>
some (n, s105)) P := by
  have hR := h.1
  obtain ⟨⟨a1, a2, a3, a4, a5, a6⟩, ⟨b1, b2, b3, b4, b5, b6⟩, hp, hq⟩ := hR
  have w1 := Hd.m (show w32 (τ 1 1 + 1) = τ 1 1 + 1 from w32_sm (by omega))
  unfold fX1_turnClock
  simp only [fld_eq, put_eq]
  rw [lod_eq (by decide), dvc_eq (by decide), sto_eq (by decide), lod_eq (by decide), a2, w1.o]
  have e1 : up σ 3 1 (τ 1 1 + 1) 3 1 = τ 1 1 + 1 := (by (simp only [up_g, Nat.reduceAdd, true_and, and_true, false_and, and_false, Nat.reduceEqDiff, if_false, if_true]) <;> (repeat (first | rw [if_neg (by omega)] | rw [if_pos (by omega)])) <;> (first | assumption | omega))
  have e2 : ∀ v, up τ 1 1 v 1 1 = v := fun v => (by (simp only [up_g, Nat.reduceAdd, true_and, and_true, false_and, and_false, Nat.reduceEqDiff, if_false, if_true]) <;> (repeat (first | rw [if_neg (by omega)] | rw [if_pos (by omega)])) <;> (first | assumption | omega))
  rw [e1, e2]
  by_cases c : τ 1 1 + 1 < 60
  · have i1 : irm (τ 1 1 + 1) 60 = τ 1 1 + 1 := by rw [irm_nn (by omega)]; omega
    rw [i1, if_pos c, if_pos (by omega), bnd_some]
    exact hk _ _ _ (Mv.nb h (by repeat (first | exact Fr.rf | exact fx | refine Fr.up ?_ (by decide))) (by repeat (first | exact Fm.rf | exact fm | exact fm.mono (by decide) (by decide) | refine Fm.u0 ?_ (by decide) | refine Fm.up ?_ (by decide) (by decide))) (by (simp only [up_g, Nat.reduceAdd, true_and, and_true, false_and, and_false, Nat.reduceEqDiff, if_false, if_true]) <;> (repeat (first | rw [if_neg (by omega)] | rw [if_pos (by omega)])) <;> (first | assumption | omega)) (h.1.min (by omega) (by omega)))
  · have i1 : irm (τ 1 1 + 1) 60 = 0 := by rw [irm_nn (by omega)]; omega
    rw [i1, if_neg c, if_neg (by decide)]
    have e3 : up (up σ 3 1 (τ 1 1 + 1)) 3 1 0 3 2 = τ 1 0 := a3
    have e4 : up (up σ 3 1 (τ 1 1 + 1)) 3 1 0 = up σ 3 1 0 := by
      funext k i
      simp only [up_g]
      split <;> rfl
    rw [e3, e4, bnd_assoc]
    have g0 : Mv t σ τ (up (up σ 3 1 0) 3 2 (w32 (τ 1 0 + 1))) (up (up τ 1 1 0) 1 0 (w32 (τ 1 0 + 1))) := Mv.nb h (by repeat (first | exact Fr.rf | exact fx | refine Fr.up ?_ (by decide))) (by repeat (first | exact Fm.rf | exact fm | exact fm.mono (by decide) (by decide) | refine Fm.u0 ?_ (by decide) | refine Fm.up ?_ (by decide) (by decide))) (by (simp only [up_g, Nat.reduceAdd, true_and, and_true, false_and, and_false, Nat.reduceEqDiff, if_false, if_true]) <;> (repeat (first | rw [if_neg (by omega)] | rw [if_pos (by omega)])) <;> (first | assumption | omega)) ((h.1.min (v := 0) (by decide) (by decide)).eve)
    obtain ⟨M, hM⟩ : ∃ M : Nat, τ 0 7 = M := ⟨(τ 0 7).toNat, by omega⟩
    refine ok2_bnd (ok2_for M (fun i x σ' y τ' => x = (i : Int) ∧ y = (i : Int) ∧ τ' 1 0 = τ 1 0 ∧ Mv t σ τ σ' (up τ' 1 0 (w32 (τ 1 0 + 1)))) (by omega) ⟨rfl, rfl, (by (simp only [up_g, Nat.reduceAdd, true_and, and_true, false_and, and_false, Nat.reduceEqDiff, if_false, if_true]) <;> (repeat (first | rw [if_neg (by omega)] | rw [if_pos (by omega)])) <;> (first | assumption | omega)), g0⟩ ?_ ?_)
    · rintro i x σ' y τ' hi ⟨rfl, rfl, z, g⟩
      have hM' : τ' 0 7 = M := (g.2.2.1.2 7 (by decide)).trans hM
      have a6 : σ' 3 5 = M := (g.1.1.1.2.2.2.2.2).trans hM'
      have wi := (wq4 (i := i) (by omega)).1
      obtain ⟨_, σ2, ex, _, τ2, ey, g2⟩ := rise2 g.1 (p := (i : Int)) (by omega) (by show (i : Int) < τ' 0 7; omega)
      rw [getsUp_eq (by omega) (by omega)] at ey
      cases ey
      rw [a6, hM', if_pos (show (i : Int) < (M : Int) by omega), if_pos (show (i : Int) < (M : Int) by omega), ex, bnd_some, getsUp_eq (by omega) (by omega), bnd_some, ok2_some, wi.o]
      refine ⟨rfl, rfl, ?_, ?_⟩
      · rw [← z]
        exact (by (simp only [up_g, Nat.reduceAdd, true_and, and_true, false_and, and_false, Nat.reduceEqDiff, if_false, if_true]) <;> (repeat (first | rw [if_neg (by omega)] | rw [if_pos (by omega)])) <;> (first | assumption | omega))
      · rw [up_commi (i1 := 81 + (i : Int)) (i2 := 0) (by omega), up_commi (i1 := 61 + (i : Int)) (i2 := 0) (by omega), up_commi (i1 := 41 + (i : Int)) (i2 := 0) (by omega)]
        exact g.tr g2
    · rintro x σ' y τ' ⟨rfl, rfl, z, g⟩
      have hM' : τ' 0 7 = M := (g.2.2.1.2 7 (by decide)).trans hM
      have a6 : σ' 3 5 = M := (g.1.1.1.2.2.2.2.2).trans hM'
      rw [a6, hM', if_neg (by omega), if_neg (by omega), ok2_some]
      show Ok2 (bnd (some ((0 : Int), σ')) k1) (lod τ' 1 161 0 fun v103 => sto τ' 1 161 0 (w32 (v103 + 1)) fun s105 => some (n, s105)) P
      rw [bnd_some, lod_eq (by decide), sto_eq (by decide), z]
      exact hk _ _ _ g
