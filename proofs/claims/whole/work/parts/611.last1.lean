/-! LAST: the class's rounds -/
def vX (σ : St) (v : Int) : Int := if σ 161 v = -1 then 100000000 else σ 161 v
/-- the class's row of feet -/
def wXb (n : Nat) (B : Int) (σ : St) : Prop := ∀ v : Int, 0 ≤ v → v < 12 → (σ 161 v = -1 ∨ (0 ≤ σ 161 v ∧ σ 161 v ≤ B)) ∧ ((n : Int) ≤ v → σ 161 v = -1)
theorem c_walk {n : Nat} {B : Int} {σ : St} {u v w : Int} (hn : n ≤ 12) (h : wXb n B σ) (hB : 0 ≤ B ∧ B ≤ 9000000) (hu : 0 ≤ u ∧ u < n) (hv : 0 ≤ v ∧ v < n) (hw : 1 ≤ w ∧ w ≤ 99) : Ok (fX4_walk u v w σ) fun _ s => Fr [161] σ s ∧ wXb n (B + 99) s ∧ ∀ x : Int, vX s x = rlx (vX σ) u v w x := by
  have qu := (h u hu.1 (by omega)).1
  have qv := (h v hv.1 (by omega)).1
  have keep : wXb n (B + 99) σ := fun x x0 x1 => ⟨by have := (h x x0 x1).1; omega, (h x x0 x1).2⟩
  have chg : σ 161 u ≠ -1 → wXb n (B + 99) (up σ 161 v (σ 161 u + w)) := fun hne x x0 x1 => by
    have := h x x0 x1
    simp only [up_g, true_and, and_true, false_and, and_false, Nat.reduceEqDiff, if_false, if_true]
    by_cases e : x = v
    · rw [if_pos e]
      exact ⟨Or.inr (by omega), fun hx => by omega⟩
    · rw [if_neg e]
      exact ⟨by omega, this.2⟩
  unfold fX4_walk
  rw [within_eq, bnd_some, if_pos (show 0 ≤ u ∧ u ≤ 11 by omega), if_neg (show ¬ ((1 : Int) = 0) by decide), within_eq, bnd_some, if_pos (show 0 ≤ v ∧ v ≤ 11 by omega), if_neg (show ¬ ((1 : Int) = 0) by decide), lod_eq (by omega)]
  by_cases c1 : σ 161 u = -1
  · rw [if_pos c1, ko_some]
    refine ⟨Fr.rf, keep, fun x => ?_⟩
    unfold rlx imn vX
    rw [if_pos c1]
    by_cases e : x = v
    · rw [if_pos e, e]
      (repeat' split) <;> omega
    · rw [if_neg e]
  · rw [if_neg c1, lod_eq (by omega), lb_eq, w32_sm (x := σ 161 u + w) (by omega), lod_eq (by omega)]
    by_cases c2 : σ 161 v = -1
    · rw [if_pos c2, sto_eq (by omega), ko_some]
      refine ⟨Fr.rf.up (by decide), chg c1, fun x => ?_⟩
      unfold rlx imn vX
      simp only [up_g, true_and, and_true, false_and, and_false, Nat.reduceEqDiff, if_false, if_true]
      rw [if_neg c1, if_pos c2, if_pos (show σ 161 u + w < 100000000 by omega)]
      by_cases e : x = v
      · rw [if_pos e, if_pos e, if_neg (by omega)]
      · rw [if_neg e, if_neg e]
    · rw [if_neg c2, lod_eq (by omega)]
      by_cases c3 : σ 161 u + w < σ 161 v
      · rw [if_pos c3, sto_eq (by omega), ko_some]
        refine ⟨Fr.rf.up (by decide), chg c1, fun x => ?_⟩
        unfold rlx imn vX
        simp only [up_g, true_and, and_true, false_and, and_false, Nat.reduceEqDiff, if_false, if_true]
        rw [if_neg c1, if_neg c2, if_pos c3]
        by_cases e : x = v
        · rw [if_pos e, if_pos e, if_neg (by omega)]
        · rw [if_neg e, if_neg e]
      · rw [if_neg c3, ko_some]
        refine ⟨Fr.rf, keep, fun x => ?_⟩
        unfold rlx imn vX
        rw [if_neg c1, if_neg c2, if_neg c3]
        by_cases e : x = v
        · rw [if_pos e, e, if_neg c2]
        · rw [if_neg e]
theorem c_round {L n : Nat} {s B : Int} {σ : St} (w0 : σ 26 0 = 4) (w1 : σ 26 2 = L) (hL : L ≤ 16) (hn : n ≤ 12) (hw : wkOk (σ 27) L n) (hB : 0 ≤ B ∧ B ≤ 1000000) (hx : wXb n B σ) (hv : LV (σ 27) L n s B (vX σ)) : Ok (itr FUEL (fun (x11 : Int) s12 =>
bnd (fX6_size 26 27 64 s12) fun r14 s15 =>
if x11 < r14 then (
bnd (fX6_get 26 27 64 x11 0 s15) fun r17 s18 =>
bnd (fX6_get 26 27 64 x11 1 s18) fun r20 s21 =>
bnd (fX6_get 26 27 64 x11 2 s21) fun r23 s24 =>
bnd (fX4_walk r17 r20 r23 s24) fun r26 s27 =>
bnd (fX6_get 26 27 64 x11 1 s27) fun r29 s30 =>
bnd (fX6_get 26 27 64 x11 0 s30) fun r32 s33 =>
bnd (fX6_get 26 27 64 x11 2 s33) fun r35 s36 =>
bnd (fX4_walk r29 r32 r35 s36) fun r38 s39 =>
some (.inl (w32 (x11 + 1)), s39))
else
(some (.inr (), s15) : Rs (Int ⊕ Unit))) 0 σ) fun _ σ' => Fr [161] σ σ' ∧ wXb n (B + 3168) σ' ∧ LV (σ 27) L n s (B + 3168) (vX σ') ∧ (∀ x, vX σ' x ≤ vX σ x) ∧ ∀ u v w, wkE (σ 27) L u v w → vX σ' v ≤ vX σ u + w := by
  refine for_ok L (fun i x σ' => x = (i : Int) ∧ Fr [161] σ σ' ∧ wXb n (B + 198 * i) σ' ∧ LV (σ 27) L n s (B + 198 * i) (vX σ') ∧ (∀ x, vX σ' x ≤ vX σ x) ∧ ∀ u v w, wkE (σ 27) i u v w → vX σ' v ≤ vX σ u + w) (by omega) ⟨rfl, Fr.rf, fun x x0 x1 => ⟨by have := (hx x x0 x1).1; omega, (hx x x0 x1).2⟩, hv.cong (by omega) (fun _ _ _ => rfl), fun _ => Int.le_refl _, fun u v w ⟨k, hk, _⟩ => by omega⟩ ?_ ?_
  · rintro i x σ1 hi ⟨rfl, fx, x1, v1, l1, e1⟩
    have g : ∀ t : St, Fr [161] σ t → ∀ q : Int, 0 ≤ q → q < 4 → fX6_get 26 27 64 i q t = some (σ 27 ((i : Int) * 4 + q), t) := fun t ft q q0 q1 => by
      rw [row_get (w := 4) (by rw [ft 26 (by decide)]; exact w0) (by decide) (by rw [ft 26 (by decide), w1]; omega) (by decide), ft 26 (by decide), w1, if_pos (by omega), ft 27 (by decide)]
    have ea : wkE (σ 27) L (σ 27 ((i : Int) * 4)) (σ 27 ((i : Int) * 4 + 1)) (σ 27 ((i : Int) * 4 + 2)) := ⟨i, hi, Or.inl ⟨rfl, rfl⟩, rfl⟩
    have eb : wkE (σ 27) L (σ 27 ((i : Int) * 4 + 1)) (σ 27 ((i : Int) * 4)) (σ 27 ((i : Int) * 4 + 2)) := ⟨i, hi, Or.inr ⟨rfl, rfl⟩, rfl⟩
    obtain ⟨ha, hb, hw1, hw2⟩ := hw _ _ _ ea
    have z0 : σ 27 ((i : Int) * 4 + 0) = σ 27 ((i : Int) * 4) := by rw [Int.add_zero]
    have sz : σ1 26 2 = L := by rw [fx 26 (by decide)]; exact w1
    rw [row_size, bnd_some, sz, ko_t (by omega), g σ1 fx 0 (by decide) (by decide), bnd_some, g σ1 fx 1 (by decide) (by decide), bnd_some, g σ1 fx 2 (by decide) (by decide), bnd_some, z0, ko_bnd]
    refine ok_mono (c_walk hn x1 (by omega) ha hb ⟨hw1, hw2⟩) ?_
    rintro _ σ2 ⟨f2, x2, r2⟩
    have fx2 := fx.tr f2
    rw [g σ2 fx2 1 (by decide) (by decide), bnd_some, g σ2 fx2 0 (by decide) (by decide), bnd_some, g σ2 fx2 2 (by decide) (by decide), bnd_some, z0, ko_bnd]
    refine ok_mono (c_walk hn x2 (by omega) hb ha ⟨hw1, hw2⟩) ?_
    rintro _ σ3 ⟨f3, x3, r3⟩
    have q2 := v1.rlx hw ea (by omega)
    have v2 : LV (σ 27) L n s (B + 198 * i + 99) (vX σ2) := q2.cong (by omega) fun x _ _ => r2 x
    have q3 := v2.rlx hw eb (by omega)
    have a2 : (∀ x, vX σ2 x ≤ vX σ1 x) ∧ vX σ2 (σ 27 ((i : Int) * 4 + 1)) ≤ vX σ1 (σ 27 ((i : Int) * 4)) + σ 27 ((i : Int) * 4 + 2) := by
      have := rlx_le (V := vX σ1) (u := σ 27 ((i : Int) * 4)) (v := σ 27 ((i : Int) * 4 + 1)) (w := σ 27 ((i : Int) * 4 + 2))
      exact ⟨fun x => by rw [r2 x]; exact this.1 x, by rw [r2]; exact this.2⟩
    have a3 : (∀ x, vX σ3 x ≤ vX σ2 x) ∧ vX σ3 (σ 27 ((i : Int) * 4)) ≤ vX σ2 (σ 27 ((i : Int) * 4 + 1)) + σ 27 ((i : Int) * 4 + 2) := by
      have := rlx_le (V := vX σ2) (u := σ 27 ((i : Int) * 4 + 1)) (v := σ 27 ((i : Int) * 4)) (w := σ 27 ((i : Int) * 4 + 2))
      exact ⟨fun x => by rw [r3 x]; exact this.1 x, by rw [r3]; exact this.2⟩
    rw [ko_some, ko_jl, w32_nat (by omega)]
    refine ⟨rfl, fx2.tr f3, fun x x0 x1 => ⟨by have := (x3 x x0 x1).1; omega, (x3 x x0 x1).2⟩, q3.cong (by omega) fun x _ _ => r3 x, fun x => ?_, fun u v w ⟨k, hk, h1, h2⟩ => ?_⟩
    · have := a2.1 x
      have := a3.1 x
      have := l1 x
      omega
    · by_cases e : k = i
      · subst e
        rcases h1 with ⟨h1, h3⟩ | ⟨h1, h3⟩
        · have b1 := a3.1 v
          have b2 := a2.2
          have b3 := l1 u
          rw [h1, h3, h2] at b2
          omega
        · have b1 := a3.2
          have b2 := a2.1 u
          have b3 := l1 u
          rw [h1, h3, h2] at b1
          omega
      · have b0 := e1 u v w ⟨k, by omega, h1, h2⟩
        have b1 := a3.1 v
        have b2 := a2.1 v
        omega
  · rintro x σ1 ⟨rfl, fx, x1, v1, l1, e1⟩
    have sz : σ1 26 2 = L := by rw [fx 26 (by decide)]; exact w1
    rw [row_size, bnd_some, sz, ko_f (Int.lt_irrefl _), ko_some, ko_jr]
    exact ⟨fx, fun x x0 x2 => ⟨by have := (x1 x x0 x2).1; omega, (x1 x x0 x2).2⟩, v1.cong (by omega) fun _ _ _ => rfl, l1, e1⟩
/-- how it stands after so many rounds -/
def RD (C : Int → Int) (L n : Nat) (s : Int) (r : Nat) (V : Int → Int) : Prop := V s ≤ 0 ∧ (r ≤ stc C L s V n ∨ n ≤ stc C L s V n)
theorem RD.next {C : Int → Int} {L n r : Nat} {s : Int} {V V' : Int → Int} (h : RD C L n s r V) (hw : wkOk C L n) (hs : 0 ≤ s ∧ s < n) (hA : ∀ v, V' v ≤ V v) (hB : ∀ u v w, wkE C L u v w → V' v ≤ V u + w) : RD C L n s (r + 1) V' := by
  obtain ⟨h0, h1⟩ := h
  refine ⟨by have := hA s; omega, ?_⟩
  have g := stc_grow (V := V) (V' := V') hw hs (fun v _ _ => hA v) hB h0
  have m : stc C L s V n ≤ stc C L s V' n := cnB_mono fun v hv hf => by
    have hf := @of_decide_eq_true _ (Classical.propDecidable _) hf
    refine @decide_eq_true _ (Classical.propDecidable _) fun k d hd => ?_
    have h1 := hf k d hd
    have h2 := hA v
    omega
  rcases g with g | g <;> omega
theorem RD.all {C : Int → Int} {L n r : Nat} {s : Int} {V : Int → Int} (h : RD C L n s r V) (hr : n ≤ r) {v : Int} (v0 : 0 ≤ v) (v1 : v < n) : sett C L s V v :=
  stc_full (by have := cnB_le (f := fun v => @decide (sett C L s V v) (Classical.propDecidable _)) n; have := h.2; unfold stc at *; omega) v0 v1
