/-! HALF -/
theorem half_step {σ' τ' : St} {i j : Nat} {W F G : Int} (hi : i ≤ 12) (hj : j ≤ 12) (g3 : fX6_get 44 45 24 ((i : Int) + j - 1) 0 σ' = some (if (i : Int) + j = 0 then -1 else W, σ')) (t3 : (i : Int) + j ≠ 0 → τ' 43 (48 + ((i : Int) + j - 1)) = W)
    (g1 : 0 < (i : Int) → fX6_get 40 41 12 ((i : Int) - 1) 0 σ' = some (F, σ')) (t1 : 0 < (i : Int) → τ' 43 ((i : Int) - 1) = F) (g2 : 0 < (j : Int) → fX6_get 42 43 12 ((j : Int) - 1) 0 σ' = some (G, σ')) (t2 : 0 < (j : Int) → τ' 43 (24 + ((j : Int) - 1)) = G)
    (p1 : 0 < (i : Int) → σ' 164 j = τ' 44 (13 * ((i : Int) - 1) + j) ∧ 0 ≤ σ' 164 j ∧ σ' 164 j < 1000000007) (p2 : 0 < (j : Int) → σ' 164 ((j : Int) - 1) = τ' 44 (13 * (i : Int) + ((j : Int) - 1)) ∧ 0 ≤ σ' 164 ((j : Int) - 1) ∧ σ' 164 ((j : Int) - 1) < 1000000007) :
    Ok (bnd (
    if (i : Int) = 0 then (
    if (j : Int) = 0 then (
    some ((1 : Int), σ'))
    else
    some (0, σ'))
    else
    some (0, σ')) fun (y16 : Int) s17 =>
    bnd (fX6_get 44 45 24 ((i : Int) + j - 1) 0 s17) fun r19 s20 =>
    bnd (
    if 0 < (i : Int) then (
    bnd (fX6_get 40 41 12 (w32 ((i : Int) - 1)) 0 s20) fun r22 s23 =>
    if r22 = r19 then (
    lod s23 164 13 (j : Int) fun v25 =>
    lb (w64 (y16 + v25)) fun v27 =>
    some (v27, s23))
    else
    some (y16, s23))
    else
    some (y16, s20)) fun (y29 : Int) s30 =>
    bnd (
    if 0 < (j : Int) then (
    bnd (fX6_get 42 43 12 (w32 ((j : Int) - 1)) 0 s30) fun r32 s33 =>
    if r32 = r19 then (
    lod s33 164 13 (w32 ((j : Int) - 1)) fun v35 =>
    lb (w64 (y29 + v35)) fun v37 =>
    some (v37, s33))
    else
    some (y29, s33))
    else
    some (y29, s30)) fun (y39 : Int) s40 =>
    some (y39, s40)) fun r s => σ' = s ∧ 0 ≤ r ∧ r < 2000000014 ∧ Ok (fX12_waysOfHalf i j τ') fun r' t => τ' = t ∧ r' = md r := by
  have e1 : Hd (w32 ((i : Int) + j) = (i : Int) + j) := w32_sm (by omega)
  have e5 : Hd (w32 (w32 (w32 (48 + (i : Int)) + j) - 1) = 48 + ((i : Int) + j - 1)) := Hd.m (by rw [w32_l, w32_ls, w32_sm (by omega)]; omega)
  have e6 : Hd (w32 (w32 (24 + (j : Int)) - 1) = 24 + ((j : Int) - 1)) := Hd.m (by rw [w32_ls, w32_sm (by omega)]; omega)
  have e7 : Hd (w32 (w32 (w32 (13 * (i : Int)) + j) - 1) = 13 * (i : Int) + ((j : Int) - 1)) := Hd.m (by rw [w32_l, w32_ls, w32_sm (by omega)]; omega)
  have e9 : Hd (w32 (w32 (13 * ((i : Int) - 1)) + j) = 13 * ((i : Int) - 1) + j) := Hd.m (by rw [w32_l, w32_sm (by omega)])
  unfold fX12_waysOfHalf
  by_cases z : (i : Int) + j = 0
  · have zi : i = 0 := by omega
    have zj : j = 0 := by omega
    subst zi
    subst zj
    rw [if_pos z] at g3
    rw [e1.o, if_pos z]
    simp only [Int.natCast_zero] at g3 ⊢
    simp only [if_true, bnd_some, g3, Int.lt_irrefl, if_false, ko_some]
    exact ⟨trivial, by decide, by decide, trivial, (md_sm (by decide)).symm⟩
  · rw [if_neg z] at g3
    have t3 := t3 z
    rw [e1.o, if_neg z, e5.o]
    have c0 : (if (i : Int) = 0 then (if (j : Int) = 0 then (some ((1 : Int), σ') : Rs Int) else some (0, σ')) else some (0, σ')) = some (0, σ') := by
      by_cases zi : (i : Int) = 0
      · rw [if_pos zi, if_neg (by omega)]
      · rw [if_neg zi]
    rw [c0, bnd_some, g3, bnd_some, lod_eq (by omega), t3]
    have nxt : ∀ s1 : Int, 0 ≤ s1 → s1 < 1000000007 → Ok (bnd (
        if 0 < (j : Int) then (
        bnd (fX6_get 42 43 12 (w32 ((j : Int) - 1)) 0 σ') fun r32 s33 =>
        if r32 = W then (
        lod s33 164 13 (w32 ((j : Int) - 1)) fun v35 =>
        lb (w64 (s1 + v35)) fun v37 =>
        some (v37, s33))
        else
        some (s1, s33))
        else
        some (s1, σ')) fun (y39 : Int) s40 =>
        some (y39, s40)) fun r s => σ' = s ∧ 0 ≤ r ∧ r < 2000000014 ∧ Ok (if 0 < (j : Int) then (
        lod τ' 43 72 (w32 (w32 (24 + (j : Int)) - 1)) fun v13 =>
        if v13 = W then (
        lod τ' 44 169 (w32 (w32 (w32 (13 * (i : Int)) + j) - 1)) fun v15 =>
        bnd (fX12_added s1 v15 τ') fun r17 s18 =>
        some (r17, s18))
        else
        some (s1, τ'))
        else
        some (s1, τ')) fun r' t => τ' = t ∧ r' = md r := by
      intro s1 s10 s11
      by_cases zj : 0 < (j : Int)
      · have e8 : Hd (w32 ((j : Int) - 1) = (j : Int) - 1) := w32_sm (by omega)
        have q := p2 zj
        have t2 := t2 zj
        have g2 := g2 zj
        rw [if_pos zj, if_pos zj, e6.o, e7.o, e8.o, g2, bnd_some]
        by_cases zz : G = W
        · rw [if_pos zz, ko_bnd, ko_lod, ko_lb, ko_some, ko_some, ko_lod, t2, ko_t zz, ko_lod, ← q.1, added_eq ⟨s10, s11⟩ q.2, ko_bnd, ko_some, ko_some, w64_sm (by omega)]
          exact ⟨by omega, rfl, by omega, by omega, by omega, by omega, rfl, rfl⟩
        · rw [if_neg zz, ko_bnd, ko_some, ko_some, ko_lod, t2, ko_f zz, ko_some]
          exact ⟨rfl, s10, by omega, by omega, rfl, (md_sm ⟨s10, s11⟩).symm⟩
      · rw [if_neg zj, if_neg zj, ko_bnd, ko_some, ko_some, ko_some]
        exact ⟨rfl, s10, by omega, rfl, (md_sm ⟨s10, s11⟩).symm⟩
    by_cases zi : 0 < (i : Int)
    · have e10 : Hd (w32 ((i : Int) - 1) = (i : Int) - 1) := w32_sm (by omega)
      have q := p1 zi
      have t1 := t1 zi
      have g1 := g1 zi
      rw [if_pos zi, if_pos zi, e10.o, e9.o, g1, bnd_some, lod_eq (k := 43) (i := (i : Int) - 1) (by omega), t1]
      by_cases zz : F = W
      · rw [if_pos zz, if_pos zz, lod_eq (k := 164) (by omega), lod_eq (k := 44) (by omega), lb_eq, bnd_some, ← q.1, added_eq (show (0 : Int) ≤ 0 ∧ (0 : Int) < 1000000007 by decide) q.2, bnd_some, bnd_some, Int.zero_add, md_sm q.2, w64_sm (by omega)]
        exact nxt _ q.2.1 q.2.2
      · rw [if_neg zz, if_neg zz, bnd_some, bnd_some]
        exact nxt 0 (by decide) (by decide)
    · rw [if_neg zi, if_neg zi, bnd_some, bnd_some]
      exact nxt 0 (by decide) (by decide)
theorem bnd_assoc {α β γ : Type} {h : Rs α} {k : α → St → Rs β} {g : β → St → Rs γ} : bnd (bnd h k) g = bnd h fun x s => bnd (k x s) g := by
  cases h with
  | none => rfl
  | some q => rfl
theorem bnd4 {α β γ δ ε : Type} {A : Rs α} {B : α → St → Rs β} {C : α → St → β → St → Rs γ} {D : α → St → β → St → γ → St → Rs δ} {K : δ → St → Rs ε} {r : δ} {σ' : St} (e : bnd A (fun a s => bnd (B a s) fun b t => bnd (C a s b t) fun c u => bnd (D a s b t c u) fun d v => some (d, v)) = some (r, σ')) :
    bnd A (fun a s => bnd (B a s) fun b t => bnd (C a s b t) fun c u => bnd (D a s b t c u) fun d v => K d v) = K r σ' := by
  have : bnd (bnd A (fun a s => bnd (B a s) fun b t => bnd (C a s b t) fun c u => bnd (D a s b t c u) fun d v => some (d, v))) K = K r σ' := by rw [e]; rfl
  simp only [bnd_assoc, bnd_some] at this
  exact this
theorem half_loops {σ τ : St} {a b : Nat} (ha : a ≤ 12) (hb : b ≤ 12) (m0 : τ 42 0 = a) (m1 : τ 42 1 = b)
    (G3 : ∀ σ', Fr [164] σ σ' → ∀ i j : Nat, i ≤ a → j ≤ b → fX6_get 44 45 24 ((i : Int) + j - 1) 0 σ' = some (if (i : Int) + j = 0 then -1 else τ 43 (48 + ((i : Int) + j - 1)), σ'))
    (G1 : ∀ σ', Fr [164] σ σ' → ∀ i : Nat, i ≤ a → 0 < (i : Int) → fX6_get 40 41 12 ((i : Int) - 1) 0 σ' = some (τ 43 ((i : Int) - 1), σ'))
    (G2 : ∀ σ', Fr [164] σ σ' → ∀ j : Nat, j ≤ b → 0 < (j : Int) → fX6_get 42 43 12 ((j : Int) - 1) 0 σ' = some (τ 43 (24 + ((j : Int) - 1)), σ')) :
    Ok2 (itr FUEL (fun (x10 : Int) s11 =>
      if (a : Int) < x10 then (
      some (.inr (), s11))
      else
      bnd (itr FUEL (fun (x13 : Int) s14 =>
      if (b : Int) < x13 then (
      some (.inr (), s14))
      else
      bnd (
      if x10 = 0 then (
      if x13 = 0 then (
      some ((1 : Int), s14))
      else
      some (0, s14))
      else
      some (0, s14)) fun (y16 : Int) s17 =>
      bnd (fX6_get 44 45 24 (w32 (w32 (x10 + x13) - 1)) 0 s17) fun r19 s20 =>
      bnd (
      if 0 < x10 then (
      bnd (fX6_get 40 41 12 (w32 (x10 - 1)) 0 s20) fun r22 s23 =>
      if r22 = r19 then (
      lod s23 164 13 x13 fun v25 =>
      lb (w64 (y16 + v25)) fun v27 =>
      some (v27, s23))
      else
      some (y16, s23))
      else
      some (y16, s20)) fun (y29 : Int) s30 =>
      bnd (
      if 0 < x13 then (
      bnd (fX6_get 42 43 12 (w32 (x13 - 1)) 0 s30) fun r32 s33 =>
      if r32 = r19 then (
      lod s33 164 13 (w32 (x13 - 1)) fun v35 =>
      lb (w64 (y29 + v35)) fun v37 =>
      some (v37, s33))
      else
      some (y29, s33))
      else
      some (y29, s30)) fun (y39 : Int) s40 =>
      dvc 1000000007 <|
      sto s40 164 13 x13 (lrm y39 1000000007) fun s43 =>
      some (.inl (w32 (x13 + 1)), s43)) 0 s11) fun (y44 : Unit) s45 =>
      some (.inl (w32 (x10 + 1)), s45)) 0 σ)
      (itr FUEL (fun (x11 : Int) s12 =>
      lod s12 42 3 0 fun v14 =>
      if v14 < x11 then (
      some (.inr (), s12))
      else
      bnd (itr FUEL (fun (x16 : Int) s17 =>
      lod s17 42 3 1 fun v19 =>
      if v19 < x16 then (
      some (.inr (), s17))
      else
      bnd (fX12_waysOfHalf x11 x16 s17) fun r21 s22 =>
      sto s22 44 169 (w32 (w32 (13 * x11) + x16)) r21 fun s24 =>
      some (.inl (w32 (x16 + 1)), s24)) 0 s12) fun (y25 : Unit) s26 =>
      some (.inl (w32 (x11 + 1)), s26)) 0 τ)
      (fun (_ : Unit) σ' (_ : Unit) τ' => Fr [164] σ σ' ∧ Fm [44] [] τ τ' ∧ σ' 164 b = τ' 44 (13 * (a : Int) + b) ∧ 0 ≤ σ' 164 b ∧ σ' 164 b < 1000000007) := by
  refine ok2_for (a + 1) (fun i x σ' y τ' => x = (i : Int) ∧ y = (i : Int) ∧ Fr [164] σ σ' ∧ Fm [44] [] τ τ' ∧ ∀ j : Int, 0 ≤ j → j ≤ b → 1 ≤ i → σ' 164 j = τ' 44 (13 * ((i : Int) - 1) + j) ∧ 0 ≤ σ' 164 j ∧ σ' 164 j < 1000000007) (by omega) ⟨rfl, rfl, Fr.rf, Fm.rf, fun j _ _ q => absurd q (by decide)⟩ ?_ ?_
  · rintro i x σ' y τ' hi ⟨rfl, rfl, fx, fm, hj⟩
    have m42 : τ' 42 = τ 42 := fm.1 42 (by decide) (by decide)
    rw [if_neg (by omega), lod_eq (by decide), m42, m0, if_neg (by omega)]
    refine ok2_bnd (ok2_for (b + 1) (fun j x σ' y τ' => x = (j : Int) ∧ y = (j : Int) ∧ Fr [164] σ σ' ∧ Fm [44] [] τ τ' ∧ (∀ q : Int, 0 ≤ q → q < j → σ' 164 q = τ' 44 (13 * (i : Int) + q) ∧ 0 ≤ σ' 164 q ∧ σ' 164 q < 1000000007) ∧ ∀ q : Int, (j : Int) ≤ q → q ≤ b → 1 ≤ i → σ' 164 q = τ' 44 (13 * ((i : Int) - 1) + q) ∧ 0 ≤ σ' 164 q ∧ σ' 164 q < 1000000007) (by omega) ⟨rfl, rfl, fx, fm, fun q q0 q1 => absurd q1 (by rw [Int.natCast_zero]; omega), fun q q0 q1 q2 => hj q q0 q1 q2⟩ ?_ ?_)
    · clear hj fm fx m42
      rintro j x σ' y τ' hj ⟨rfl, rfl, fx, fm, h1, h2⟩
      have m42 : τ' 42 = τ 42 := fm.1 42 (by decide) (by decide)
      have m43 : τ' 43 = τ 43 := fm.1 43 (by decide) (by decide)
      have g3 := G3 σ' fx i j (by omega) (by omega)
      have g1 := G1 σ' fx i (by omega)
      have g2 := G2 σ' fx j (by omega)
      have nb : ¬ (b : Int) < j := by omega
      simp only [if_neg nb, lod_eq (show (0 : Int) ≤ 1 ∧ (1 : Int) < (3 : Nat) by decide), m42, m1]
      rw [w32_sm (x := (i : Int) + j) (by omega), w32_sm (x := (i : Int) + j - 1) (by omega)]
      obtain ⟨r, s, e, rfl, r0, r1, r', t, e', rfl, rfl⟩ := half_step (σ' := σ') (τ' := τ') (i := i) (j := j) (W := τ 43 (48 + ((i : Int) + j - 1))) (F := τ 43 ((i : Int) - 1)) (G := τ 43 (24 + ((j : Int) - 1))) (by omega) (by omega) g3 (fun _ => by rw [m43]) g1 (fun _ => by rw [m43]) g2 (fun _ => by rw [m43]) (fun q => h2 j (Int.le_refl _) (by omega) (by omega)) (fun q => h1 _ (by omega) (by omega))
      clear g3 g1 g2 G3 G1 G2
      rw [bnd4 e, e', bnd_some, dvc_eq (by decide), sto_eq (by omega), sto_eq (by rw [w32_l, w32_sm (by omega)]; omega), ok2_some, lrm_md r0, w32_l, w32_sm (x := 13 * (i : Int) + j) (by omega), w32_nat (by omega)]
      have bm := md_bd r
      generalize md r = m at bm
      clear e e' r0 r1
      refine ⟨rfl, rfl, fx.up (by decide), fm.up (by decide) (by decide), fun q q0 q1 => ?_, fun q q0 q1 q2 => ?_⟩
      · by_cases hq : q = j
        · rw [hq]
          simp only [up_g, true_and, and_true, false_and, and_false, Nat.reduceEqDiff, if_false, if_true]
          first | exact bm | exact ⟨trivial, bm⟩
        · have := h1 q q0 (by omega)
          simp only [up_g, true_and, and_true, false_and, and_false, Nat.reduceEqDiff, if_false, if_true]
          rw [if_neg hq, if_neg (by omega)]
          exact this
      · have := h2 q (by omega) q1 q2
        simp only [up_g, true_and, and_true, false_and, and_false, Nat.reduceEqDiff, if_false, if_true]
        rw [if_neg (by omega), if_neg (by omega)]
        exact this
    · clear hj fm fx m42
      rintro x σ' y τ' ⟨rfl, rfl, fx, fm, h1, h2⟩
      have m42 : τ' 42 = τ 42 := fm.1 42 (by decide) (by decide)
      rw [if_pos (by omega), lod_eq (by decide), m42, m1, if_pos (by omega), ok2_some, ok2_some, w32_nat (by omega)]
      refine ⟨rfl, rfl, fx, fm, fun j j0 j1 _ => ?_⟩
      rw [show (((i + 1 : Nat) : Int) - 1) = i by omega]
      exact h1 j j0 (by omega)
  · rintro x σ' y τ' ⟨rfl, rfl, fx, fm, hj⟩
    have m42 : τ' 42 = τ 42 := fm.1 42 (by decide) (by decide)
    obtain ⟨q1, q2, q3⟩ := hj b (by omega) (by omega) (by omega)
    rw [show (((a + 1 : Nat) : Int) - 1) = a by omega] at q1
    rw [if_pos (by omega), lod_eq (by decide), m42, m0, if_pos (by omega), ok2_some]
    exact ⟨fx, fm, q1, q2, q3⟩
theorem s_halves {σ τ : St} (h : Rl σ τ) {p1 : Int} : Sim (fX11_halves p1 σ) (fX12_halves p1 τ) := by
  unfold fX12_halves
  refine sim_t0 h ?_
  clear h
  intro τ h
  refine Sim.of h ?_
  have hR := h.c_RHalf
  simp only [RHalf, Nat.reduceAdd] at hR
  obtain ⟨⟨u0, u1, u2, u3, u4⟩, ⟨v0, v1, v2, v3, v4⟩, ⟨w0, w1, w2, w3, w4⟩⟩ := hR
  obtain ⟨a, ha⟩ : ∃ n : Nat, τ 42 0 = n := ⟨(τ 42 0).toNat, by omega⟩
  obtain ⟨b, hb⟩ : ∃ n : Nat, τ 42 1 = n := ⟨(τ 42 1).toNat, by omega⟩
  rw [ha] at u1 u2 u3 u4
  rw [hb] at v1 v2 v3 v4
  have ew : Hd (w32 ((a : Int) + b) = (a : Int) + b) := w32_sm (by omega)
  unfold fX11_halves
  by_cases c1 : 0 ≤ p1 ∧ p1 ≤ 1
  · have l0 : ∀ {β : Type} {σ : St} {k : Nat} {g : Int → Rs β}, lod σ k 3 0 g = g (σ k 0) := fun {β σ k g} => lod_eq (by decide)
    have l1 : ∀ {β : Type} {σ : St} {k : Nat} {g : Int → Rs β}, lod σ k 3 1 g = g (σ k 1) := fun {β σ k g} => lod_eq (by decide)
    have l2 : ∀ {β : Type} {σ : St} {k : Nat} {g : Int → Rs β}, lod σ k 3 2 g = g (σ k 2) := fun {β σ k g} => lod_eq (by decide)
    by_cases c : τ 42 2 = (a : Int) + b
    · have main := half_loops (σ := σ) (τ := τ) (a := a) (b := b) (by omega) (by omega) ha hb (by
          intro σ' fx i j hi hj
          have x44 : σ' 44 = σ 44 := fx 44 (by decide)
          have x45 : σ' 45 = σ 45 := fx 45 (by decide)
          rw [row_get (w := 1) (by rw [x44]; exact w0) (by omega) (by rw [x44]; omega) (by omega), x44, x45, w1]
          by_cases z : (i : Int) + j = 0
          · rw [if_pos z, if_neg (by omega)]
          · rw [if_neg z, if_pos (by omega), Int.mul_one, Int.add_zero, w4 _ (by omega) (by omega)]) (by
          intro σ' fx i hi hi0
          have x40 : σ' 40 = σ 40 := fx 40 (by decide)
          have x41 : σ' 41 = σ 41 := fx 41 (by decide)
          rw [row_get (w := 1) (by rw [x40]; exact u0) (by omega) (by rw [x40]; omega) (by omega), x40, x41, u1, if_pos (by omega), Int.mul_one, Int.add_zero, u4 _ (by omega) (by omega)]) (by
          intro σ' fx j hj hj0
          have x42 : σ' 42 = σ 42 := fx 42 (by decide)
          have x43 : σ' 43 = σ 43 := fx 43 (by decide)
          rw [row_get (w := 1) (by rw [x42]; exact v0) (by omega) (by rw [x42]; omega) (by omega), x42, x43, v1, if_pos (by omega), Int.mul_one, Int.add_zero, v4 _ (by omega) (by omega)])
      have nb : (b : Int) < 13 := by omega
      have e13 : Hd (w32 (w32 (13 * (a : Int)) + b) = 13 * (a : Int) + b) := Hd.m (by rw [w32_l, w32_sm (by omega)])
      have fin : ∀ (f : Int → St → Rs Int), (∀ r s, f r s = some (if p1 = 0 then (if 0 < r then 1 else 0) else r, s)) → Ok2 (bnd (fX4_waysHeard σ) f) (bnd (itr FUEL (fun (x11 : Int) s12 =>
          lod s12 42 3 0 fun v14 =>
          if v14 < x11 then (
          some (.inr (), s12))
          else
          bnd (itr FUEL (fun (x16 : Int) s17 =>
          lod s17 42 3 1 fun v19 =>
          if v19 < x16 then (
          some (.inr (), s17))
          else
          bnd (fX12_waysOfHalf x11 x16 s17) fun r21 s22 =>
          sto s22 44 169 (w32 (w32 (13 * x11) + x16)) r21 fun s24 =>
          some (.inl (w32 (x16 + 1)), s24)) 0 s12) fun (y25 : Unit) s26 =>
          some (.inl (w32 (x11 + 1)), s26)) 0 τ) fun (y28 : Unit) s29 =>
          lod s29 42 3 0 fun v31 =>
          lod s29 42 3 1 fun v33 =>
          lod s29 44 169 (w32 (w32 (13 * v31) + v33)) fun v35 =>
          if p1 = 1 then (
          some (v35, s29))
          else
          if 0 < v35 then (
          some (1, s29))
          else
          some (0, s29)) fun r σ' r' τ' => r' = r ∧ Fr wX σ σ' ∧ Fm wM wJ τ τ' := by
        intro f hf
        unfold fX4_waysHeard
        simp only [row_size, bnd_some, u1, v1, w1, c, ew.o, if_true, if_pos nb]
        rw [bnd_assoc]
        refine ok2_bnd (ok2_mono main ?_)
        rintro x σ' y τ' ⟨fx, fm, q1, q2, q3⟩
        have m42 : τ' 42 = τ 42 := fm.1 42 (by decide) (by decide)
        rw [l0, l1, m42, ha, hb, e13.o, lod_eq (by omega), lod_eq (by omega), bnd_some, hf, l2i_sm (by omega), ← q1]
        clear e13 ew q1
        generalize σ' 164 b = v at q2 q3
        have fx := fx.mono (T := wX) (by decide)
        have fm := fm.mono (C2 := wM) (J2 := wJ) (by decide) (by decide)
        by_cases d : p1 = 1
        · rw [if_pos d, if_neg (by omega), ok2_some]
          exact ⟨rfl, fx, fm⟩
        · rw [if_neg d, if_pos (by omega)]
          by_cases dv : 0 < v
          · rw [if_pos dv, if_pos dv, ok2_some]
            exact ⟨rfl, fx, fm⟩
          · rw [if_neg dv, if_neg dv, ok2_some]
            exact ⟨rfl, fx, fm⟩
      by_cases d : p1 = 0
      · have := fin (fun r4 s5 => if 0 < r4 then some (1, s5) else some (0, s5)) (fun r s => by rw [if_pos d]; split <;> rfl)
        simp only [isIn_eq, bnd_some, if_pos c1, Int.reduceEq, if_false, l0, l1, l2, ha, hb, ew.o, c, if_true]
        rw [if_pos d]
        simp only [l0, l1] at this
        exact this
      · have := fin (fun r4 s5 => some (r4, s5)) (fun r s => by rw [if_neg d])
        simp only [isIn_eq, bnd_some, if_pos c1, Int.reduceEq, if_false, l0, l1, l2, ha, hb, ew.o, c, if_true]
        rw [if_neg d, if_pos (by omega)]
        simp only [l0, l1] at this
        exact this
    · unfold fX4_waysHeard
      have nc : ¬ (a : Int) + b = τ 42 2 := fun q => c q.symm
      simp only [isIn_eq, bnd_some, if_pos c1, Int.reduceEq, if_false, l0, l1, l2, ha, hb, ew.o, if_neg nc, row_size, u1, v1, w1, if_neg c, Int.lt_irrefl]
      by_cases d : p1 = 0
      · rw [if_pos d, ok2_some]
        exact ⟨rfl, Fr.rf, Fm.rf⟩
      · rw [if_neg d, if_pos (by omega), ok2_some]
        exact ⟨rfl, Fr.rf, Fm.rf⟩
  · simp only [isIn_eq, bnd_some, if_neg c1, if_true, if_neg (show ¬ p1 = 0 by omega), if_neg (show ¬ p1 = 1 by omega)]
    rw [ok2_some]
    exact ⟨rfl, Fr.rf, Fm.rf⟩
