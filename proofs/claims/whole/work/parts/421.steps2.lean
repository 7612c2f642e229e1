/-! STEPS at the reference -/
theorem m_waysUp {τ : St} {n : Nat} {q : Int} {F : Int → Int} (hn : n ≤ 40) (hF : stF F q n) : Ok (fX12_waysUp n q τ) fun r τ' => Fm [49] [] τ τ' ∧ (∀ u : Int, 0 ≤ u → u ≤ n → τ' 49 u = F u) ∧ r = F n := by
  unfold fX12_waysUp
  obtain ⟨f1, f2, f3⟩ := hF
  rw [ko_bnd]
  refine for_ok (n + 1) (fun i x τ' => x = (i : Int) ∧ Fm [49] [] τ τ' ∧ ∀ u : Int, 0 ≤ u → u < i → τ' 49 u = F u) (by omega) ⟨rfl, Fm.rf, fun u h1 h2 => by omega⟩ ?_ ?_
  · rintro i x τ' hi ⟨rfl, fm, hu⟩
    rw [ko_f (by omega)]
    have key : ∀ c : Int, c = (if i = 0 then 1 else 0) → Ok (sto τ' 49 41 (i : Int) c fun s7 =>
        bnd (itr FUEL (fun (x8 : Int) s9 =>
        if x8 < 6 then (
        if (i : Int) < x8 then (
        some (.inr (), s9))
        else
        bnd (fX12_has q (w32 (x8 - 1)) s9) fun r11 s12 =>
        if r11 = 0 then (
        some (.inl (w32 (x8 + 1)), s12))
        else
        lod s12 49 41 (i : Int) fun v14 =>
        lod s12 49 41 (w32 ((i : Int) - x8)) fun v16 =>
        bnd (fX12_added v14 v16 s12) fun r18 s19 =>
        sto s19 49 41 (i : Int) r18 fun s21 =>
        some (.inl (w32 (x8 + 1)), s21))
        else
        some (.inr (), s9)) 1 s7) fun (y22 : Unit) s23 =>
        (some (.inl (w32 ((i : Int) + 1)), s23) : Rs (Int ⊕ Unit))) (Jx (fun x τ' => x = ((i + 1 : Nat) : Int) ∧ Fm [49] [] τ τ' ∧ ∀ u : Int, 0 ≤ u → u < ((i + 1 : Nat) : Int) → τ' 49 u = F u) fun y τ' => Ok (lod τ' 49 41 n fun v28 => some (v28, τ')) fun r τ' => Fm [49] [] τ τ' ∧ (∀ u : Int, 0 ≤ u → u ≤ n → τ' 49 u = F u) ∧ r = F n) := by
      intro c hc
      rw [ko_sto, ko_bnd]
      refine ⟨by omega, ?_⟩
      refine for_ok (min i 5) (fun k x τ3 => x = ((k + 1 : Nat) : Int) ∧ Fm [49] [] τ τ3 ∧ (∀ u : Int, 0 ≤ u → u < i → τ3 49 u = F u) ∧ τ3 49 i = (if i = 0 then 1 else md (stS F q i k))) (by omega) ⟨rfl, (by repeat (first | exact Fm.rf | exact fm | exact fm.mono (by decide) (by decide) | refine Fm.u0 ?_ (by decide) | refine Fm.up ?_ (by decide) (by decide))), fun u u0 u1 => ?_, ?_⟩ ?_ ?_
      · simp only [up_g, true_and, and_true, false_and, and_false, Nat.reduceEqDiff, if_false, if_true]
        rw [if_neg (by omega)]
        exact hu u u0 u1
      · simp only [up_g, true_and, and_true, false_and, and_false, Nat.reduceEqDiff, if_false, if_true]
        rw [hc]
        by_cases h0 : i = 0
        · rw [if_pos h0, if_pos h0]
        · rw [if_neg h0, if_neg h0]; rfl
      · rintro k x τ3 hk ⟨rfl, fm3, h3, h4⟩
        have hi0 : i ≠ 0 := by omega
        rw [if_neg hi0] at h4
        have e1 : w32 (((k + 1 : Nat) : Int) + 1) = ((k + 1 + 1 : Nat) : Int) := w32_nat (by omega)
        have e2 : w32 (((k + 1 : Nat) : Int) - 1) = k := by rw [w32_sm (by omega)]; omega
        have e3 : w32 ((i : Int) - ((k + 1 : Nat) : Int)) = (i : Int) - ((k + 1 : Nat) : Int) := w32_sm (by omega)
        have b1 := f3 ((i : Int) - ((k + 1 : Nat) : Int)) (by omega) (by omega)
        have b2 := md_bd (stS F q i k)
        rw [ko_t (by omega), ko_f (by omega), e2, has_eq, ko_bnd, ko_some]
        by_cases c2 : iand (ishr q k) 1 = 1
        · rw [if_pos c2, ko_f (by decide), ko_lod, ko_lod, e3, h3 ((i : Int) - ((k + 1 : Nat) : Int)) (by omega) (by omega), h4, added_eq b2 b1, ko_bnd, ko_some, ko_sto, ko_some, ko_jl, e1]
          refine ⟨by omega, by omega, by omega, rfl, fm3.up (by decide) (by decide), fun u u0 u1 => ?_, ?_⟩
          · simp only [up_g, true_and, and_true, false_and, and_false, Nat.reduceEqDiff, if_false, if_true]
            rw [if_neg (by omega)]
            exact h3 u u0 u1
          · simp only [up_g, true_and, and_true, false_and, and_false, Nat.reduceEqDiff, if_false, if_true]
            rw [if_neg hi0, md_l, stS, if_pos ⟨by omega, c2⟩]
        · rw [if_neg c2, ko_t rfl, ko_some, ko_jl, e1]
          refine ⟨rfl, fm3, h3, ?_⟩
          rw [if_neg hi0, stS, if_neg (fun q => c2 q.2), Int.add_zero]
          exact h4
      · rintro x τ3 ⟨rfl, fm3, h3, h4⟩
        have fin : ∀ u : Int, 0 ≤ u → u < ((i + 1 : Nat) : Int) → τ3 49 u = F u := by
          intro u u0 u1
          by_cases hui : u = i
          · rw [hui, h4]
            by_cases h0 : i = 0
            · rw [if_pos h0, h0]; exact f1.symm
            · rw [if_neg h0, f2 i (by omega) (by omega)]
              congr 1
              have tail : ∀ d : Nat, min i 5 + d ≤ 5 → stS F q i (min i 5 + d) = stS F q i (min i 5) := by
                intro d
                induction d with
                | zero => intro _; rfl
                | succ d ih =>
                  intro hd
                  rw [show min i 5 + (d + 1) = (min i 5 + d) + 1 by omega, stS, ih (by omega), if_neg (by omega), Int.add_zero]
              rw [← tail (5 - min i 5) (by omega), show min i 5 + (5 - min i 5) = 5 by omega]
          · exact h3 u u0 (by omega)
        have e1 : w32 ((i : Int) + 1) = ((i + 1 : Nat) : Int) := w32_nat (by omega)
        by_cases h6 : ((min i 5 + 1 : Nat) : Int) < 6
        · rw [ko_t h6, ko_t (by omega), ko_some, ko_jr, ko_some, ko_jl]
          exact ⟨e1, fm3, fin⟩
        · rw [ko_f h6, ko_some, ko_jr, ko_some, ko_jl]
          exact ⟨e1, fm3, fin⟩
    rw [ko_bnd]
    by_cases h0 : i = 0
    · rw [ko_t (by omega), ko_some]
      exact key 1 (by rw [if_pos h0])
    · rw [ko_f (by omega), ko_some]
      exact key 0 (by rw [if_neg h0])
  · rintro x τ' ⟨rfl, fm, hu⟩
    rw [ko_t (by omega), ko_some, ko_jr, ko_lod, ko_some]
    exact ⟨by omega, fm, fun u u0 u1 => hu u u0 (by omega), hu n (by omega) (by omega)⟩
/-- so that the last pace is as the first one -/
def alS (F : Int → Int) (q n : Int) : Nat → Int
  | 0 => 0
  | k + 1 => alS F q n k + if iand (ishr q k) 1 = 1 then (if n = ((k + 1 : Nat) : Int) then 1 else 0) + (if n < 2 * ((k + 1 : Nat) : Int) then 0 else F (n - 2 * ((k + 1 : Nat) : Int))) else 0
theorem alS_bd {F : Int → Int} {q n : Int} (h : ∀ u, 0 ≤ u → u ≤ n → 0 ≤ F u ∧ F u < 1000000007) : ∀ k : Nat, 0 ≤ alS F q n k ∧ alS F q n k ≤ k * 1000000008 := by
  intro k
  induction k with
  | zero => exact ⟨Int.le_refl 0, by simp [alS]⟩
  | succ k ih =>
    rw [alS]
    by_cases c : iand (ishr q k) 1 = 1
    · rw [if_pos c]
      by_cases c2 : n < 2 * ((k + 1 : Nat) : Int)
      · rw [if_pos c2]
        split <;> omega
      · rw [if_neg c2]
        have := h (n - 2 * ((k + 1 : Nat) : Int)) (by omega) (by omega)
        split <;> omega
    · rw [if_neg c]
      omega
theorem c_alike {σ : St} {n : Nat} {q : Int} (h0 : 0 < n) (hn : n ≤ 40) : Ok (fX4_waysUpAlike n q σ) fun r σ' => Fr [163] σ σ' ∧ stF (σ' 163) q n ∧ r = md (alS (σ' 163) q n 5) := by
  unfold fX4_waysUpAlike
  rw [ko_bnd]
  refine ok_mono (c_waysUp hn) ?_
  rintro r σ' ⟨fx, hF, rfl⟩
  rw [ko_t (by omega), ko_f (by omega), ko_bnd]
  refine for_ok 5 (fun k x σ'' => σ' = σ'' ∧ x = (alS (σ' 163) q n k, ((k + 1 : Nat) : Int))) (by omega) ⟨rfl, rfl⟩ ?_ ?_
  · rintro k x σ'' hk ⟨rfl, rfl⟩
    have bd := alS_bd (q := q) (n := n) hF.2.2 k
    have e1 : w32 (((k + 1 : Nat) : Int) + 1) = ((k + 1 + 1 : Nat) : Int) := w32_nat (by omega)
    have e2 : w32 (2 * ((k + 1 : Nat) : Int)) = 2 * ((k + 1 : Nat) : Int) := w32_sm (by omega)
    have e4 : w64 (alS (σ' 163) q n k + 1) = alS (σ' 163) q n k + 1 := w64_sm (by omega)
    rw [ko_f (by omega), ko_bnd, hasPace_eq (by omega), ko_some]
    by_cases c2 : iand (ishr q k) 1 = 1
    · rw [if_pos c2, ko_f (by decide), ko_bnd, alS, if_pos c2]
      by_cases c3 : (n : Int) = ((k + 1 : Nat) : Int)
      · rw [ko_t c3, ko_lb, ko_some, e2, ko_t (by omega), ko_some, ko_jl, if_pos c3, if_pos (by omega), e1, e4]
        exact ⟨rfl, by rw [Int.add_zero]⟩
      · rw [ko_f c3, ko_some, e2, if_neg c3]
        by_cases c4 : (n : Int) < 2 * ((k + 1 : Nat) : Int)
        · rw [ko_t c4, ko_some, ko_jl, if_pos c4, e1]
          exact ⟨rfl, by rw [Int.add_zero, Int.add_zero]⟩
        · have b2 := hF.2.2 ((n : Int) - 2 * ((k + 1 : Nat) : Int)) (by omega) (by omega)
          rw [ko_f c4, ko_lod, ko_lb, ko_some, ko_jl, if_neg c4, e1, w32_sm (x := (n : Int) - 2 * ((k + 1 : Nat) : Int)) (by omega), w64_sm (by omega)]
          exact ⟨by omega, rfl, by rw [Int.zero_add]⟩
    · rw [if_neg c2, ko_t rfl, ko_some, ko_jl, e1, alS, if_neg c2, Int.add_zero]
      exact ⟨rfl, rfl⟩
  · rintro x σ'' ⟨rfl, rfl⟩
    have bd := alS_bd (q := q) (n := n) hF.2.2 5
    have bm := md_bd (alS (σ' 163) q n 5)
    rw [ko_t (show (5 : Int) < ((5 + 1 : Nat) : Int) by decide), ko_some, ko_jr, ko_dvc, ko_some, lrm_md bd.1, l2i_sm (by omega)]
    exact ⟨by decide, fx, hF, rfl⟩
theorem s_steps {σ τ : St} (h : Rl σ τ) {p1 p2 p3 : Int} : Sim (fX11_steps p1 p2 p3 σ) (fX12_steps p1 p2 p3 τ) := by
  unfold fX12_steps
  refine sim_t0 h ?_
  clear h
  intro τ h
  refine Sim.of h ?_
  unfold fX11_steps
  by_cases c1 : 0 ≤ p1 ∧ p1 ≤ 40
  · by_cases c2 : 0 ≤ p2 ∧ p2 ≤ 31
    · by_cases c3 : 0 ≤ p3 ∧ p3 ≤ 1
      · obtain ⟨n, rfl⟩ : ∃ n : Nat, p1 = n := ⟨p1.toNat, by omega⟩
        have hn : n ≤ 40 := by omega
        have start : ∀ {σ' : St}, Fr [163] σ σ' → ∀ F : Int → Int, stF F p2 n → ∀ r : Int, ∀ k : Int → St → Rs Int, (∀ τ', Fm [49] [] τ τ' → (∀ u : Int, 0 ≤ u → u ≤ n → τ' 49 u = F u) → Ok (k (F n) τ') fun r' τ' => r' = r ∧ Fm [49] [] τ τ') → Ok (bnd (fX12_waysUp n p2 τ) k) fun r' τ' => r' = r ∧ Fr wX σ σ' ∧ Fm wM wJ τ τ' := by
          intro σ' fx F hF r k hk
          rw [ko_bnd]
          refine ok_mono (m_waysUp (τ := τ) hn hF) ?_
          rintro r2 τ' ⟨fm, hu, rfl⟩
          refine ok_mono (hk τ' fm hu) ?_
          rintro r3 τ'' ⟨e, fm2⟩
          exact ⟨e, fx.mono (by decide), fm2.mono (by decide) (by decide)⟩
        simp only [isIn_eq, within_eq, bnd_some, if_pos c1, if_pos c2, if_pos c3, Int.reduceEq, if_false]
        by_cases c0 : p3 = 0
        · rw [if_pos c0]
          refine ok2_l (ok_mono (c_waysUp hn) ?_)
          rintro r σ' ⟨fx, hF, rfl⟩
          refine ⟨_, _, rfl, start fx _ hF _ _ (fun τ' fm hu => ?_)⟩
          rw [ko_t c0, ko_some]
          exact ⟨rfl, fm⟩
        · rw [if_neg c0, if_pos (show p3 = 1 by omega)]
          by_cases n0 : n = 0
          · subst n0
            unfold fX4_waysUpAlike
            refine ok2_l ?_
            rw [ko_bnd]
            refine ok_mono (c_waysUp hn) ?_
            rintro r σ' ⟨fx, hF, rfl⟩
            rw [ko_f (by decide), ko_some]
            refine ⟨_, _, rfl, start fx _ hF _ _ (fun τ' fm hu => ?_)⟩
            rw [ko_f c0, ko_t (by decide), ko_some]
            exact ⟨rfl, fm⟩
          · refine ok2_l (ok_mono (c_alike (by omega) hn) ?_)
            rintro r σ' ⟨fx, hF, rfl⟩
            refine ⟨_, _, rfl, start fx _ hF _ _ (fun τ' fm hu => ?_)⟩
            generalize σ' 163 = F at hF hu
            rw [ko_f c0, ko_f (by omega), ko_bnd]
            refine for_ok 5 (fun k x τ'' => τ' = τ'' ∧ x = (md (alS F p2 n k), ((k + 1 : Nat) : Int))) (by omega) ⟨rfl, rfl⟩ ?_ ?_
            · rintro k x τ'' hk ⟨rfl, rfl⟩
              have bd := md_bd (alS F p2 n k)
              have e1 : w32 (((k + 1 : Nat) : Int) + 1) = ((k + 1 + 1 : Nat) : Int) := w32_nat (by omega)
              have e2 : w32 (2 * ((k + 1 : Nat) : Int)) = 2 * ((k + 1 : Nat) : Int) := w32_sm (by omega)
              have e3 : w32 (((k + 1 : Nat) : Int) - 1) = k := by rw [w32_sm (by omega)]; omega
              rw [ko_t (by omega), e3, has_eq, ko_bnd, ko_some]
              by_cases c2 : iand (ishr p2 k) 1 = 1
              · rw [if_pos c2, ko_f (by decide), ko_bnd, alS, if_pos c2]
                by_cases c3 : (n : Int) = ((k + 1 : Nat) : Int)
                · rw [ko_t c3, added_eq bd (by decide), ko_bnd, ko_some, ko_some, e2, ko_t (by omega), ko_some, ko_jl, if_pos c3, if_pos (by omega), e1, md_l]
                  exact ⟨rfl, by rw [Int.add_zero]⟩
                · rw [ko_f c3, ko_some, e2, if_neg c3]
                  by_cases c4 : (n : Int) < 2 * ((k + 1 : Nat) : Int)
                  · rw [ko_t c4, ko_some, ko_jl, if_pos c4, e1]
                    exact ⟨rfl, by rw [Int.add_zero, Int.add_zero]⟩
                  · have b2 := hF.2.2 ((n : Int) - 2 * ((k + 1 : Nat) : Int)) (by omega) (by omega)
                    rw [ko_f c4, ko_lod, w32_sm (x := (n : Int) - 2 * ((k + 1 : Nat) : Int)) (by omega), hu _ (by omega) (by omega), added_eq bd b2, ko_bnd, ko_some, ko_some, ko_jl, if_neg c4, e1, md_l]
                    exact ⟨by omega, rfl, by rw [Int.zero_add]⟩
              · rw [if_neg c2, ko_t rfl, ko_some, ko_jl, e1, alS, if_neg c2, Int.add_zero]
                exact ⟨rfl, rfl⟩
            · rintro x τ'' ⟨rfl, rfl⟩
              rw [ko_f (show ¬ ((5 + 1 : Nat) : Int) < 6 by decide), ko_some, ko_jr, ko_some]
              exact ⟨rfl, fm⟩
      · simp only [isIn_eq, within_eq, bnd_some, if_pos c1, if_pos c2, if_neg c3, Int.reduceEq, if_false, if_true]
        rw [if_neg (by omega), if_neg (by omega), ok2_some]
        exact ⟨rfl, Fr.rf, Fm.rf⟩
    · simp only [isIn_eq, within_eq, bnd_some, if_pos c1, if_neg c2, Int.reduceEq, if_false, if_true]
      rw [ok2_some]
      exact ⟨rfl, Fr.rf, Fm.rf⟩
  · simp only [isIn_eq, within_eq, bnd_some, if_neg c1, if_true]
    rw [ok2_some]
    exact ⟨rfl, Fr.rf, Fm.rf⟩
