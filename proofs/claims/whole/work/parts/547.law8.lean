/-! the law's code: what it tells, for the class -/
theorem hld_eq {v c : Int} (hc : 0 ≤ c) : imx 0 (imn c v) = hld v c := by
  unfold hld imx imn
  (repeat' split) <;> omega
theorem c_law {σ τ : St} {W : Int → Int} {p c : Int} (h : RLaw σ 17 τ) (hp : 0 ≤ p ∧ p ≤ 2) (hcap : c = if 260 + p = 262 then 9 else 1000) (hW : ∀ a, 0 ≤ a → a ≤ 9 → σ 150 a = W a) : Ok (itr FUEL (fun (x4 : Int) s5 =>
bnd (fX6_size 18 19 64 s5) fun r7 s8 =>
if x4 < r7 then (
bnd (fX6_get 18 19 64 x4 0 s8) fun r10 s11 =>
if r10 = 260 + p then (
bnd (fX6_get 18 19 64 x4 2 s11) fun r13 s14 =>
bnd (fX6_get 18 19 64 x4 3 s14) fun r16 s17 =>
bnx (
if r13 < r16 then (
bnd (fX3_value r13 r16 s17) fun r19 s20 =>
if r19 = 0 then (
some (.inr (.inl (w32 (x4 + 1))), s20))
else
some (.inl x4, s20))
else
some (.inl x4, s17)) fun (y22 : Int) s23 =>
bnd (
if 260 + p = 262 then (
some (9, s23))
else
some (1000, s23)) fun (y25 : Int) s26 =>
bnd (fX6_get 18 19 64 y22 1 s26) fun r28 s29 =>
bnd (fX3_value r28 r13 s29) fun r31 s32 =>
some (.inr (.inr (imx 0 (imn y25 r31))), s32))
else
some (.inl (w32 (x4 + 1)), s11))
else
(some (.inr (.inl ()), s8) : Rs (Int ⊕ (Unit ⊕ Int)))) 0 σ) (Jx (fun _ σ' => Fr [151] σ σ' ∧ firstL τ W p (-1)) fun v σ' => Fr [151] σ σ' ∧ ∀ d, lawV τ W p d c v) := by
  have hlaw := h
  obtain ⟨⟨w0, w1, w2, w3, w4, w5, w6⟩, hl, hc⟩ := h
  simp only [Nat.reduceAdd] at w0 w1 w2 w5 w6 hl hc
  obtain ⟨N, hN⟩ : ∃ N : Nat, τ 10 0 = N := ⟨(τ 10 0).toNat, by omega⟩
  have c0 : 0 ≤ c := by rw [hcap]; split <;> decide
  refine for_ok N (fun i x σ' => x = (i : Int) ∧ Fr [151] σ σ' ∧ ∀ l : Nat, l < i → ¬ fitL τ W p l) (by omega) ⟨rfl, Fr.rf, fun l hl => absurd hl (Nat.not_lt_zero l)⟩ ?_ ?_
  · rintro i x s hi ⟨rfl, fr, hn⟩
    obtain ⟨⟨u0, u1, u2, u3⟩, ⟨v0, v1, v2, v3, v4, v5⟩, ⟨kx, _, k1⟩, k2⟩ := hl i (by omega) (by omega)
    have next : ∀ s', Fr [151] σ s' → ¬ fitL τ W p i → w32 ((i : Int) + 1) = ((i + 1 : Nat) : Int) ∧ Fr [151] σ s' ∧ ∀ l : Nat, l < i + 1 → ¬ fitL τ W p l := fun s' f c => ⟨w32_nat (by omega), f, fun l hl => by
      by_cases e : l = i
      · rw [e]; exact c
      · exact hn l (by omega)⟩
    have get : ∀ s', Fr [151] σ s' → ∀ q : Int, 0 ≤ q → q < 4 → fX6_get 18 19 64 i q s' = some (σ 19 ((i : Int) * 4 + q), s') := by
      intro s' f q q0 q1
      have e18 : s' 18 = σ 18 := f 18 (by decide)
      have e19 : s' 19 = σ 19 := f 19 (by decide)
      rw [row_get (w := 4) (by rw [e18]; exact w0) (by decide) (by rw [e18]; omega) (by decide), e18, if_pos (by omega), e19]
    have val : ∀ s', Fr [151] σ s' → ∀ (a b : Int) (k : Nat), 0 ≤ a → a ≤ b → b ≤ σ 20 2 → chk (τ 15) (τ 16) (b - a).toNat a [] = some [k] → Ok (fX3_value a b s') fun v σ' => Fr [151] s' σ' ∧ vls W (τ 15) (τ 16) a (b - a).toNat = [v] := by
      intro s' f a b k a0 ab b1 hk
      have e20 : s' 20 = σ 20 := f 20 (by decide)
      have e21 : s' 21 = σ 21 := f 21 (by decide)
      have e150 : s' 150 = σ 150 := f 150 (by decide)
      have := c_value (σ := s') (W := W) (op := τ 15) (ar := τ 16) (i0 := a) (n := (b - a).toNat) (k := k) (by rw [e20]; exact w1) a0 (by rw [e20]; omega) (by rw [e20]; exact w6) (by rw [e20, e21]; exact hc) hk (by rw [e150]; exact hW)
      rw [show a + (((b - a).toNat : Nat) : Int) = b by omega] at this
      exact this
    have tell : ∀ s', Fr [151] σ s' → fitL τ W p i → Ok (bnd (if 260 + p = 262 then (some (9, s') : Rs Int) else some (1000, s')) fun (y25 : Int) s26 =>
        bnd (fX6_get 18 19 64 i 1 s26) fun r28 s29 =>
        bnd (fX3_value r28 (τ 13 i) s29) fun r31 s32 =>
        (some (.inr (.inr (imx 0 (imn y25 r31))), s32) : Rs (Int ⊕ (Unit ⊕ Int)))) (Jx (fun x σ' => x = ((i + 1 : Nat) : Int) ∧ Fr [151] σ σ' ∧ ∀ l : Nat, l < i + 1 → ¬ fitL τ W p l) (Jx (fun _ σ' => Fr [151] σ σ' ∧ firstL τ W p (-1)) fun v σ' => Fr [151] σ σ' ∧ ∀ d, lawV τ W p d c v)) := by
      intro s' f hf
      rw [show (if 260 + p = 262 then (some (9, s') : Rs Int) else some (1000, s')) = some (c, s') by rw [hcap]; split <;> rfl, bnd_some, get s' f 1 (by decide) (by decide), bnd_some, u1, ko_bnd]
      refine ok_mono (val s' f _ _ kx v2 v3 (by omega) k1) ?_
      rintro v s2 ⟨f2, hv⟩
      rw [ko_some, ko_jr, ko_jr, hld_eq c0]
      exact ⟨f.tr f2, fun d => ⟨i, Or.inr ⟨i, by omega, rfl, hf, hn⟩, Or.inr ⟨v, by omega, hv, rfl⟩⟩⟩
    have e18 : s 18 2 = N := by rw [fr 18 (by decide), w2, hN]
    have g0 := get s fr 0 (by decide) (by decide)
    rw [Int.add_zero, u0] at g0
    rw [row_size, bnd_some, e18, ko_t (by omega), g0, bnd_some]
    by_cases e : τ 11 (i : Int) = p
    · rw [if_pos (by omega), get s fr 2 (by decide) (by decide), bnd_some, get s fr 3 (by decide) (by decide), bnd_some, u2, u3]
      by_cases d : τ 13 (i : Int) < τ 14 i
      · rw [if_pos d, ko_bnx, ko_bnd]
        refine ok_mono (val s fr _ _ 1 (by omega) (by omega) v5 (k2 d)) ?_
        rintro v s2 ⟨f2, hv⟩
        by_cases z : v = 0
        · rw [ko_t z, ko_some, ko_jr, ko_jl]
          exact next s2 (fr.tr f2) fun ⟨_, q⟩ => q.elim (fun q => by omega) fun q => q (by rw [hv, z])
        · rw [ko_f z, ko_some, ko_jl]
          refine tell s2 (fr.tr f2) ⟨e, Or.inr fun q => z ?_⟩
          rw [hv] at q
          exact (List.cons.inj q).1
      · rw [if_neg d, bnx_inl]
        exact tell s fr ⟨e, Or.inl (by omega)⟩
    · rw [if_neg (by omega), ko_some, ko_jl]
      exact next s fr fun q => e q.1
  · rintro x s ⟨rfl, fr, hn⟩
    have e18 : s 18 2 = N := by rw [fr 18 (by decide), w2, hN]
    rw [row_size, bnd_some, e18, ko_f (Int.lt_irrefl _), ko_some, ko_jr, ko_jl]
    exact ⟨fr, Or.inl ⟨rfl, fun l hl => hn l (by omega)⟩⟩
