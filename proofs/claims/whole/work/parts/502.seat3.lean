/-! SEATED: who won't sit beside whom -/
theorem hasq_succ {i : Nat} {C : Int → Int} {a b : Int} : hasq ((i + 1 : Nat) : Int) C a b ↔ hasq i C a b ∨ ((C ((i : Int) * 2) = a ∧ C ((i : Int) * 2 + 1) = b) ∨ (C ((i : Int) * 2) = b ∧ C ((i : Int) * 2 + 1) = a)) := by
  constructor
  · rintro ⟨j, j0, j1, hj⟩
    by_cases e : j = i
    · subst e
      exact Or.inr hj
    · exact Or.inl ⟨j, j0, by omega, hj⟩
  · rintro (⟨j, j0, j1, hj⟩ | h)
    · exact ⟨j, j0, by omega, hj⟩
    · exact ⟨i, by omega, by omega, h⟩
theorem orb_key {m : Int} {b c : Nat} {P : Prop} (h0 : 0 ≤ m) (h1 : m < 256) (hc : c < 8) (hb : b < 8) (hP : iand (ishr m b) 1 = 1 ↔ P) : 0 ≤ ior m (ishl 1 c) ∧ ior m (ishl 1 c) < 256 ∧ (iand (ishr (ior m (ishl 1 c)) b) 1 = 1 ↔ P ∨ b = c) := by
  obtain ⟨m, rfl⟩ : ∃ n : Nat, m = n := ⟨m.toNat, by omega⟩
  rw [orb_iff (by omega) (by omega) (by omega), hP]
  exact ⟨(orb_bd (by omega) hc).1, (orb_bd (by omega) hc).2, Iff.rfl⟩
theorem c_enemies {σ : St} {n N : Nat} (hn : n ≤ 8) (h1 : 1 ≤ n) (w0 : σ 48 0 = 2) (w1 : σ 48 2 = N) (hN : N ≤ 8) (w4 : ∀ i : Nat, i < N → 0 ≤ σ 49 ((i : Int) * 2) ∧ σ 49 ((i : Int) * 2) ≤ 7 ∧ 0 ≤ σ 49 ((i : Int) * 2 + 1) ∧ σ 49 ((i : Int) * 2 + 1) ≤ 7 ∧ σ 49 ((i : Int) * 2) ≠ σ 49 ((i : Int) * 2 + 1)) :
    Ok (fX4_findEnemies n σ) fun _ σ' => Fr [162] σ σ' ∧ ∀ a b : Nat, a < n → b < n → 0 ≤ σ' 162 a ∧ σ' 162 a < 256 ∧ (iand (ishr (σ' 162 a) b) 1 = 1 ↔ hasq N (σ 49) a b) := by
  unfold fX4_findEnemies
  have wn : w32 ((n : Int) - 1) = n - 1 := w32_sm (by omega)
  rw [fill_eq (by decide), ko_bnd, ko_some, ko_bnd, wn]
  clear wn
  refine for_ok N (fun i x σ' => x = (i : Int) ∧ Fr [162] σ σ' ∧ ∀ a b : Nat, a < n → b < n → 0 ≤ σ' 162 a ∧ σ' 162 a < 256 ∧ (iand (ishr (σ' 162 a) b) 1 = 1 ↔ hasq i (σ 49) a b)) (by omega) ⟨rfl, Fr.rf.fil (by decide), fun a b ha hb => ?_⟩ ?_ ?_
  · rw [fil_at (by omega), show (0 : Int) = ((0 : Nat) : Int) from rfl, bit_iff (by decide) (by omega), Nat.zero_testBit]
    exact ⟨by decide, by decide, ⟨fun e => absurd e (by decide), fun ⟨i, i0, i1, _⟩ => by omega⟩⟩
  · rintro i x s hi ⟨rfl, fr, hs⟩
    have s48 : s 48 = σ 48 := fr 48 (by decide)
    have s49 : s 49 = σ 49 := fr 49 (by decide)
    have v0 : s 48 0 = 2 := by rw [s48]; exact w0
    have v2 : s 48 2 = N := by rw [s48]; exact w1
    obtain ⟨q1, q2, q3, q4, q5⟩ := w4 i hi
    have g0 : fX6_get 48 49 16 i 0 s = some (σ 49 ((i : Int) * 2), s) := by
      rw [row_get v0 (by decide) (by omega) (by decide), if_pos (by omega), Int.add_zero, s49]
    have g1 : fX6_get 48 49 16 i 1 s = some (σ 49 ((i : Int) * 2 + 1), s) := by
      rw [row_get v0 (by decide) (by omega) (by decide), if_pos (by omega), s49]
    rw [ko_bnd, row_size, ko_some, v2, ko_t (by omega), ko_bnd, g0, ko_some, ko_bnd, g1, ko_some, ko_bnd, within_eq, ko_some]
    clear g0 g1 v0 v2 s48 s49 w4 w0 w1
    simp only [hasq_succ]
    generalize σ 49 ((i : Int) * 2) = x at *
    generalize σ 49 ((i : Int) * 2 + 1) = y at *
    obtain ⟨x, rfl⟩ : ∃ n : Nat, x = n := ⟨x.toNat, by omega⟩
    obtain ⟨y, rfl⟩ : ∃ n : Nat, y = n := ⟨y.toNat, by omega⟩
    have none : (¬ (x < n ∧ y < n)) → ∀ a b : Nat, a < n → b < n → 0 ≤ s 162 a ∧ s 162 a < 256 ∧ (iand (ishr (s 162 a) b) 1 = 1 ↔ hasq i (σ 49) a b ∨ (((x : Int) = a ∧ (y : Int) = b) ∨ ((x : Int) = b ∧ (y : Int) = a))) := by
      intro hc a b ha hb
      obtain ⟨u1, u2, u3⟩ := hs a b ha hb
      refine ⟨u1, u2, ?_⟩
      rw [u3]
      exact ⟨Or.inl, fun h => h.elim id fun h => by omega⟩
    by_cases c1 : x < n
    · rw [ko_f (by rw [if_pos (by omega)]; decide), ko_bnd, within_eq, ko_some]
      by_cases c2 : y < n
      · rw [ko_f (by rw [if_pos (by omega)]; decide), ko_lod, ko_sto, ko_lod, ko_sto, ko_some, ko_jl]
        refine ⟨by omega, by omega, by omega, by omega, w32_nat (by omega), (fr.up (by decide)).up (by decide), fun a b ha hb => ?_⟩
        obtain ⟨u1, u2, u3⟩ := hs a b ha hb
        simp only [up_g, true_and, false_and, Nat.reduceEqDiff, if_false, Int.natCast_inj]
        have hxy : ¬ x = y := fun e => q5 (by rw [e])
        have hyx : ¬ y = x := fun e => q5 (by rw [e])
        clear hs none q5 fr
        by_cases e1 : a = x
        · subst e1
          obtain ⟨k1, k2, k3⟩ := orb_key (c := y) u1 u2 (by omega) (by omega) u3
          simp only [hxy, if_false, if_true]
          refine ⟨k1, k2, ?_⟩
          rw [k3]
          constructor
          · rintro (h | h)
            · exact Or.inl h
            · exact Or.inr (Or.inl ⟨trivial, h.symm⟩)
          · rintro (h | ⟨_, h⟩ | ⟨h, h'⟩)
            · exact Or.inl h
            · exact Or.inr h.symm
            · exact absurd h' hyx
        · by_cases e2 : a = y
          · subst e2
            obtain ⟨k1, k2, k3⟩ := orb_key (c := x) u1 u2 (by omega) (by omega) u3
            simp only [hxy, hyx, if_false, if_true]
            refine ⟨k1, k2, ?_⟩
            rw [k3]
            constructor
            · rintro (h | h)
              · exact Or.inl h
              · exact Or.inr (Or.inr ⟨h.symm, trivial⟩)
            · rintro (h | ⟨h, h'⟩ | ⟨h, _⟩)
              · exact Or.inl h
              · exact h.elim
              · exact Or.inr h.symm
          · simp only [e1, e2, if_false]
            refine ⟨u1, u2, ?_⟩
            rw [u3]
            constructor
            · exact Or.inl
            · rintro (h | ⟨h, h'⟩ | ⟨h, h'⟩)
              · exact h
              · exact absurd h.symm e1
              · exact absurd h'.symm e2
      · rw [ko_t (by rw [if_neg (by omega)]), ko_some, ko_jl]
        exact ⟨w32_nat (by omega), fr, none (by omega)⟩
    · rw [ko_t (by rw [if_neg (by omega)]), ko_some, ko_jl]
      exact ⟨w32_nat (by omega), fr, none (by omega)⟩
  · rintro x s ⟨rfl, fr, hs⟩
    have v2 : s 48 2 = N := by rw [fr 48 (by decide)]; exact w1
    rw [ko_bnd, row_size, ko_some, v2, ko_f (Int.lt_irrefl _), ko_some, ko_jr, ko_some]
    exact ⟨fr, hs⟩
