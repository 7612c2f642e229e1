/-! LAST: the reference -/
theorem m_round {C : Int → Int} {L n : Nat} {s B : Int} {τ : St} (h6 : τ 0 6 = n) (hn : n ≤ 12) (hC : ∀ k : Nat, k < L → 1 ≤ C ((k : Int) * 4 + 2)) (hF : ∀ a b : Int, 0 ≤ a → a < 12 → 0 ≤ b → b < 12 → τ 20 (12 * a + b) = fm L C a b) (hw : wkOk C L n) (hB : 0 ≤ B ∧ B ≤ 1000000) (hv : LV C L n s B (τ 48)) : Ok (itr FUEL (fun (x23 : Int) s24 =>
fld s24 0 6 fun v26 =>
if x23 < v26 then (
bnd (itr FUEL (fun (x28 : Int) s29 =>
fld s29 0 6 fun v31 =>
if x28 < v31 then (
lod s29 20 288 (w32 (w32 (12 * x23) + x28)) fun v33 =>
if 0 < v33 then (
lod s29 48 12 x28 fun v35 =>
lod s29 48 12 x23 fun v37 =>
lod s29 20 288 (w32 (w32 (12 * x23) + x28)) fun v39 =>
bnd (fX12_lesser v35 (w32 (v37 + v39)) s29) fun r41 s42 =>
sto s42 48 12 x28 r41 fun s44 =>
some (.inl (w32 (x28 + 1)), s44))
else
some (.inl (w32 (x28 + 1)), s29))
else
(some (.inr (), s29) : Rs (Int ⊕ Unit))) 0 s24) fun (y45 : Unit) s46 =>
some (.inl (w32 (x23 + 1)), s46))
else
(some (.inr (), s24) : Rs (Int ⊕ Unit))) 0 τ) fun _ τ' => Fm [48] [] τ τ' ∧ LV C L n s (B + 14256) (τ' 48) ∧ (∀ x, τ' 48 x ≤ τ 48 x) ∧ ∀ u v w, wkE C L u v w → τ' 48 v ≤ τ 48 u + w := by
  have fl : ∀ u v : Int, 0 ≤ u → u < 12 → 0 ≤ v → v < 12 → (0 < fm L C u v → wkE C L u v (fm L C u v)) ∧ ∀ w, wkE C L u v w → 0 < fm L C u v ∧ fm L C u v ≤ w := fun u v _ _ _ _ => by
    obtain ⟨f1, f2⟩ := fm_line (a := u) (b := v) hC
    exact ⟨fun q => f1 (by omega), fun w q => by have := f2 w q; omega⟩
  refine ok_mono (P := fun _ τ' => Fm [48] [] τ τ' ∧ LV C L n s (B + 1188 * n) (τ' 48) ∧ (∀ x, τ' 48 x ≤ τ 48 x) ∧ ∀ u v : Int, 0 ≤ u → u < (n : Int) → 0 ≤ v → v < (n : Int) → 0 < fm L C u v → τ' 48 v ≤ τ 48 u + fm L C u v) ?_ ?_
  · refine for_ok n (fun a x τ' => x = (a : Int) ∧ Fm [48] [] τ τ' ∧ LV C L n s (B + 1188 * a) (τ' 48) ∧ (∀ x, τ' 48 x ≤ τ 48 x) ∧ ∀ u v : Int, 0 ≤ u → u < (a : Int) → 0 ≤ v → v < (n : Int) → 0 < fm L C u v → τ' 48 v ≤ τ 48 u + fm L C u v) (by omega) ⟨rfl, Fm.rf, hv.cong (by omega) (fun _ _ _ => rfl), fun _ => Int.le_refl _, fun u v u0 u1 => absurd u1 (by rw [Int.natCast_zero]; omega)⟩ ?_ ?_
    · rintro a x τ1 ha ⟨rfl, fa, va, la, ea⟩
      have h61 : τ1 0 6 = n := (fa.2 6 (by decide)).trans h6
      rw [ko_fld, h61, ko_t (by omega), ko_bnd]
      refine for_ok n (fun b x τ' => x = (b : Int) ∧ Fm [48] [] τ τ' ∧ LV C L n s (B + 1188 * a + 99 * b) (τ' 48) ∧ (∀ x, τ' 48 x ≤ τ 48 x) ∧ ∀ u v : Int, 0 ≤ u → u < (n : Int) → 0 ≤ v → v < (n : Int) → (u < a ∨ (u = a ∧ v < b)) → 0 < fm L C u v → τ' 48 v ≤ τ 48 u + fm L C u v) (by omega) ⟨rfl, fa, va.cong (by omega) (fun _ _ _ => rfl), la, fun u v u0 u1 v0 v1 q => ea u v u0 (by omega) v0 v1⟩ ?_ ?_
      · rintro b x τ2 hb ⟨rfl, fb, vb, lb, eb⟩
        have h62 : τ2 0 6 = n := (fb.2 6 (by decide)).trans h6
        have e20 : τ2 20 = τ 20 := fb.1 20 (by decide) (by decide)
        have wi := (wq4 (i := b) (by omega)).1
        have wc := Hd.m (show w32 (w32 (12 * (a : Int)) + (b : Int)) = 12 * a + b by rw [w32_l, w32_sm (by omega)])
        have hf := hF a b (by omega) (by omega) (by omega) (by omega)
        rw [ko_fld, h62, ko_t (by omega), wc.o, lod_eq (k := 20) (by omega), e20, hf]
        by_cases c : 0 < fm L C a b
        · have he := (fl a b (by omega) (by omega) (by omega) (by omega)).1 c
          have h99 := hw _ _ _ he
          have hq := vb.rlx hw he (by omega)
          have bnd1 : τ2 48 (a : Int) ≤ 100000000 ∧ 0 ≤ τ2 48 (a : Int) := by
            rcases vb a (by omega) (by omega) with q | ⟨q1, q2, _⟩ <;> omega
          have rl := rlx_le (V := τ2 48) (u := (a : Int)) (v := (b : Int)) (w := fm L C a b)
          have er : ∀ x, up τ2 48 (b : Int) (imn (τ2 48 (b : Int)) (τ2 48 (a : Int) + fm L C a b)) 48 x = rlx (τ2 48) a b (fm L C a b) x := fun x => by
            unfold rlx
            simp only [up_g, true_and, and_true, false_and, and_false, Nat.reduceEqDiff, if_false, if_true]
          rw [ko_t c, lod_eq (by omega), lod_eq (by omega), lod_eq (by omega), e20, hf, lesser_eq, bnd_some, w32_sm (x := τ2 48 (a : Int) + fm L C a b) (by omega), sto_eq (by omega), ko_some, ko_jl, wi.o]
          refine ⟨rfl, fb.up (by decide) (by decide), hq.cong (by omega) fun x _ _ => er x, fun x => ?_, fun u v u0 u1 v0 v1 q f0 => ?_⟩
          · rw [er]
            have := rl.1 x
            have := lb x
            omega
          · rw [er]
            by_cases e : u = a ∧ v = b
            · rw [e.1, e.2] at *
              have := rl.2
              have := lb (a : Int)
              omega
            · have b1 := eb u v u0 u1 v0 v1 (by omega) f0
              have := rl.1 v
              omega
        · rw [ko_f c, ko_some, ko_jl, wi.o]
          refine ⟨rfl, fb, vb.cong (by omega) fun _ _ _ => rfl, lb, fun u v u0 u1 v0 v1 q f0 => ?_⟩
          by_cases e : u = a ∧ v = b
          · rw [e.1, e.2] at f0
            exact absurd f0 c
          · exact eb u v u0 u1 v0 v1 (by omega) f0
      · rintro x τ2 ⟨rfl, fb, vb, lb, eb⟩
        have h62 : τ2 0 6 = n := (fb.2 6 (by decide)).trans h6
        have wi := (wq4 (i := a) (by omega)).1
        rw [ko_fld, h62, ko_f (Int.lt_irrefl _), ko_some, ko_jr, ko_some, ko_jl, wi.o]
        exact ⟨rfl, fb, vb.cong (by omega) fun _ _ _ => rfl, lb, fun u v u0 u1 v0 v1 f0 => eb u v u0 (by omega) v0 v1 (by omega) f0⟩
    · rintro x τ1 ⟨rfl, fa, va, la, ea⟩
      have h61 : τ1 0 6 = n := (fa.2 6 (by decide)).trans h6
      rw [ko_fld, h61, ko_f (Int.lt_irrefl _), ko_some, ko_jr]
      exact ⟨fa, va, la, ea⟩
  · rintro _ τ' ⟨fm', v', l', e'⟩
    refine ⟨fm', v'.cong (by omega) fun _ _ _ => rfl, l', fun u v w he => ?_⟩
    obtain ⟨hu, hv2, _, _⟩ := hw _ _ _ he
    have q := (fl u v hu.1 (by omega) hv2.1 (by omega)).2 w he
    have := e' u v hu.1 hu.2 hv2.1 hv2.2 q.1
    omega
