/-! MATCHED: all are engaged -/
def RchM (mb : Int → St → Rs (Int ⊕ Unit)) (τ0 : St) (n : Nat) (F : Int) (τ : St) : Prop := ∀ N, itr (n + N) mb 31 τ0 = itr N mb F τ
theorem RchM.next {mb : Int → St → Rs (Int ⊕ Unit)} {τ0 τ τ' : St} {n : Nat} {F F' : Int} (h : RchM mb τ0 n F τ) (e : mb F τ = some (.inl F', τ')) : RchM mb τ0 (n + 1) F' τ' := fun N => by
  rw [show n + 1 + N = n + (N + 1) by omega, h (N + 1)]
  rw [itr, e]
theorem ENg.up {f : Int → Int → Int} {a c c' T : Nat} {fr fr' : Int} {τ : St} (h : ENg f a c fr τ T) (hc : c ≤ c') (hf : ∀ j : Nat, j < 5 → τ 26 j ≠ -1 → τ 26 j ≠ fr') : ENg f a c' fr' τ T := by
  obtain ⟨g1, g2, g3, g4, g5⟩ := h
  refine ⟨fun j hj => ?_, g2, g3, g4, g5⟩
  rcases g1 j hj with q | ⟨q1, q2, q3⟩
  · exact Or.inl q
  · exact Or.inr ⟨q1, by omega, hf j hj (by omega)⟩
theorem eng2 {f : Int → Int → Int} {a : Nat} {σ τ : St} (hf : WP f) (w0 : σ 28 0 = 5) (w2 : σ 28 2 = 10) (hw : ∀ w k : Nat, w < 10 → k < 5 → σ 29 ((w : Int) * 5 + k) = f w k) (hW : WF f τ) (ha : a < 2) : Ok (fX0_engage a σ) fun _ σ' => ∃ τ', fX12_engages a τ = some (0, τ') ∧ Fr [154, 155] σ σ' ∧ Fm [26, 27] [] τ τ' ∧ ∀ j : Nat, j < 5 → σ' 155 j = τ' 26 j := by
  -- the reference's start
  have st : ∃ τ0, itr FUEL (fun (x3 : Int) s4 =>
if x3 < 5 then (
sto s4 26 5 x3 (-1) fun s6 =>
sto s6 27 5 x3 0 fun s7 =>
some (.inl (w32 (x3 + 1)), s7))
else
(some (.inr (), s4) : Rs (Int ⊕ Unit))) 0 τ = some ((), τ0) ∧ Fm [26, 27] [] τ τ0 ∧ ∀ j : Nat, j < 5 → τ0 26 j = -1 ∧ τ0 27 j = 0 := by
    have o : Ok (itr FUEL (fun (x3 : Int) s4 =>
if x3 < 5 then (
sto s4 26 5 x3 (-1) fun s6 =>
sto s6 27 5 x3 0 fun s7 =>
some (.inl (w32 (x3 + 1)), s7))
else
(some (.inr (), s4) : Rs (Int ⊕ Unit))) 0 τ) fun _ τ0 => Fm [26, 27] [] τ τ0 ∧ ∀ j : Nat, j < 5 → τ0 26 j = -1 ∧ τ0 27 j = 0 := by
      refine for_ok 5 (fun i x t => x = (i : Int) ∧ Fm [26, 27] [] τ t ∧ ∀ j : Nat, j < i → t 26 j = -1 ∧ t 27 j = 0) (by decide) ⟨rfl, Fm.rf, fun j hj => absurd hj (Nat.not_lt_zero j)⟩ ?_ ?_
      · rintro i x t hi ⟨rfl, ft, hj⟩
        rw [ko_t (by omega), sto_eq (by omega), sto_eq (by omega), ko_some, ko_jl, w32_nat (by omega)]
        refine ⟨rfl, (ft.up (by decide) (by decide)).up (by decide) (by decide), fun j h => ?_⟩
        simp only [up_g, true_and, and_true, false_and, and_false, Nat.reduceEqDiff, if_false, if_true]
        by_cases e : j = i
        · rw [if_pos (by omega), if_pos (by omega)]
          exact ⟨rfl, rfl⟩
        · rw [if_neg (by omega), if_neg (by omega)]
          exact hj j (by omega)
      · rintro x t ⟨rfl, ft, hj⟩
        rw [ko_f (by decide), ko_some, ko_jr]
        exact ⟨ft, hj⟩
    obtain ⟨_, τ0, e, h⟩ := o
    exact ⟨τ0, e, h⟩
  obtain ⟨τ0, es, fs, hz⟩ := st
  have e24 : τ0 24 = τ 24 := fs.1 24 (by decide) (by decide)
  have e25 : τ0 25 = τ 25 := fs.1 25 (by decide) (by decide)
  have refE : ∀ n τ', n ≤ 25 → RchM (mbE a (w32 (1 - (a : Int)))) τ0 n 0 τ' → fX12_engages a τ = some (0, τ') := by
    intro n τ' hn hr
    have e1 := hr (FUEL - n)
    have : n + (FUEL - n) = FUEL := by unfold FUEL; omega
    rw [this] at e1
    obtain ⟨M, hM⟩ : ∃ M, FUEL - n = M + 1 := ⟨FUEL - n - 1, by unfold FUEL; omega⟩
    have e2 : itr (M + 1) (mbE a (w32 (1 - (a : Int)))) 0 τ' = some ((), τ') := rfl
    rw [hM, e2] at e1
    unfold mbE at e1
    unfold fX12_engages
    rw [lb_eq, es, bnd_some, e1, bnd_some]
  unfold fX0_engage
  rw [fill_eq (by decide), bnd_some, fill_eq (by decide), bnd_some, ko_bnd]
  have fx0 : Fr [154, 155] σ (fil (fil σ 154 5 0) 155 5 (-1)) := (Fr.rf.fil (by decide)).fil (by decide)
  have q0 : EQh (fil (fil σ 154 5 0) 155 5 (-1)) τ0 := fun j hj => by
    rw [fil_at (by omega), fil_ne (by decide), fil_at (by omega)]
    exact ⟨(hz j hj).1.symm, (hz j hj).2.symm⟩
  have n0 : ENg f a 0 (-1) τ0 0 := by
    refine ⟨fun j hj => Or.inl (hz j hj).1, fun m hm => by rw [(hz m hm).2]; decide, fun j j' hj _ _ ne => absurd (hz j hj).1 ne, fun m k j hm _ _ h _ => by rw [(hz m hm).2] at h; omega, ?_⟩
    have z0 := (hz 0 (by decide)).2
    have z1 := (hz 1 (by decide)).2
    have z2 := (hz 2 (by decide)).2
    have z3 := (hz 3 (by decide)).2
    have z4 := (hz 4 (by decide)).2
    simp only [nc0, nc1, nc2, nc3, nc4] at z0 z1 z2 z3 z4
    rw [z0, z1, z2, z3, z4]
    rfl
  generalize fil (fil σ 154 5 0) 155 5 (-1) = σ1 at *
  have tot : ∀ c fr τ' T, ENg f a c fr τ' T → T ≤ 25 := fun c fr τ' T h => by
    have g := h.2.1
    have := h.2.2.2.2
    have g0 := g 0 (by decide)
    have g1 := g 1 (by decide)
    have g2 := g 2 (by decide)
    have g3 := g 3 (by decide)
    have g4 := g 4 (by decide)
    simp only [nc0, nc1, nc2, nc3, nc4] at g0 g1 g2 g3 g4
    omega
  refine for_ok 5 (fun i x s => x = (i : Int) ∧ Fr [154, 155] σ s ∧ ∃ τ' T n, n ≤ T ∧ Fm [26, 27] [] τ τ' ∧ EQh s τ' ∧ ENg f a i (-1) τ' T ∧ RchM (mbE a (w32 (1 - (a : Int)))) τ0 n ((32 - 2 ^ i : Nat) : Int) τ') (by decide) ⟨rfl, fx0, τ0, 0, 0, Nat.le_refl 0, fs, q0, n0, fun N => by rw [Nat.zero_add]; rfl⟩ ?_ ?_
  · rintro i x s hi ⟨rfl, fx, τ1, T1, n1, hn1, fm1, hq1, hE1, hR1⟩
    rw [ko_t (by omega), ko_bnd]
    have hE2 : ENg f a (i + 1) (i : Int) τ1 T1 := hE1.up (Nat.le_succ i) fun j hj ne => by
      have := hE1.1 j hj
      omega
    refine while_ok (fun x s' => Fr [154, 155] σ s' ∧ ∃ (τ' : St) (T n t : Nat) (F : Int), x.2 = t ∧ t ≤ T ∧ n ≤ T ∧ Fm [26, 27] [] τ τ' ∧ EQh s' τ' ∧ ENg f a (i + 1) x.1 τ' T ∧ RchM (mbE a (w32 (1 - (a : Int)))) τ0 n F τ' ∧ ((x.1 = -1 ∧ F = ((32 - 2 ^ (i + 1) : Nat) : Int)) ∨ ∃ m : Nat, m ≤ i ∧ x.1 = m ∧ F = ((fsN i m : Nat) : Int))) (fun x _ => (25 - x.2).toNat) ⟨fx, τ1, T1, n1, 0, _, rfl, Nat.zero_le _, hn1, fm1, hq1, hE2, hR1, Or.inr ⟨i, Nat.le_refl i, rfl, by rw [fs_top i hi]⟩⟩ (by show (25 - (0 : Int)).toNat < _; decide) ?_
    rintro ⟨fr, t'⟩ s' ⟨fx', τ', T, n, t, F, rfl, ht, hn, fm', hq', hE', hR', hF⟩
    have done : fr = -1 → Fr [154, 155] σ s' ∧ ∃ τ' T n, n ≤ T ∧ Fm [26, 27] [] τ τ' ∧ EQh s' τ' ∧ ENg f a (i + 1) (-1) τ' T ∧ RchM (mbE a (w32 (1 - (a : Int)))) τ0 n ((32 - 2 ^ (i + 1) : Nat) : Int) τ' := by
      rintro rfl
      rcases hF with ⟨_, rfl⟩ | ⟨m, _, e, _⟩
      · exact ⟨fx', τ', T, n, hn, fm', hq', hE', hR'⟩
      · exact absurd e (by show ¬ (-1 : Int) = m; omega)
    dsimp only
    rcases hF with ⟨e, _⟩ | ⟨m, hm, e, rfl⟩
    · have e : fr = -1 := e
      have d := done e
      by_cases c : (t : Int) < 25
      · rw [ko_t c, ko_t e, ko_some, ko_jr, ko_some, ko_jl, w32_nat (by omega)]
        exact ⟨rfl, d⟩
      · rw [ko_f c, ko_some, ko_jr, ko_some, ko_jl, w32_nat (by omega)]
        exact ⟨rfl, d⟩
    · have e : fr = m := e
      subst e
      have hA := (show ENg f a (i + 1) (m : Int) τ' T from hE').less hf ha (by omega) (by omega)
      have t25 : t < 25 := by
        have g := hE'.2.1
        have g5 := hE'.2.2.2.2
        have g0 := g 0 (by decide)
        have g1 := g 1 (by decide)
        have g2 := g 2 (by decide)
        have g3 := g 3 (by decide)
        have g4 := g 4 (by decide)
        simp only [nc0, nc1, nc2, nc3, nc4] at g0 g1 g2 g3 g4
        rcases (show m = 0 ∨ m = 1 ∨ m = 2 ∨ m = 3 ∨ m = 4 by omega) with rfl | rfl | rfl | rfl | rfl <;> simp only [nc0, nc1, nc2, nc3, nc4] at hA <;> omega
      have hW' : WF f τ' := fun w k hw2 hk => by
        rw [fm'.1 25 (by decide) (by decide), fm'.1 24 (by decide) (by decide)]
        exact hW w k hw2 hk
      obtain ⟨σ2, τ2, fr2, F2, c1, c2, c3, c4, c5, c6, c7⟩ := ask2 hf (by rw [fx' 28 (by decide)]; exact w0) (by rw [fx' 28 (by decide)]; exact w2) (fun w k hw2 hk => by rw [fx' 29 (by decide)]; exact hw w k hw2 hk) hW' ha hi hm hE' hq'
      rw [ko_t (by omega), ko_f (by omega), c1, bnd_some, ko_some, ko_jl, w32_nat (by omega)]
      exact ⟨⟨fx'.tr c3, τ2, T + 1, n + 1, t + 1, F2, rfl, by omega, by omega, fm'.tr c4, c5, c6, hR'.next c2, c7⟩, by show (25 - ((t + 1 : Nat) : Int)).toNat < (25 - (t : Int)).toNat; omega⟩
  · rintro x s ⟨rfl, fx, τ', T, n, hn, fm', hq', hE', hR'⟩
    rw [ko_f (by decide), ko_some, ko_jr, ko_some]
    exact ⟨τ', refE n τ' (by have := tot _ _ _ _ hE'; omega) hR', fx, fm', fun j hj => (hq' j hj).1⟩
