/-! MATCHED: one asks -/
def mbE (p1 v1 : Int) (x11 : Int) (s12 : St) : Rs (Int ⊕ Unit) :=
if x11 = 0 then (
some (.inr (), s12))
else
bnd (itr FUEL (fun (x14 : Int) s15 =>
bnd (fX12_has x11 x14 s15) fun r17 s18 =>
if r17 = 0 then (
lb (w32 (x14 + 1)) fun v20 =>
some (.inl v20, s18))
else
some (.inr x14, s18)) 0 s12) fun (y22 : Int) s23 =>
lod s23 27 5 y22 fun v25 =>
lod s23 25 50 (w32 (w32 (5 * w32 (w32 (5 * p1) + y22)) + v25)) fun v27 =>
lod s23 27 5 y22 fun v29 =>
sto s23 27 5 y22 (w32 (v29 + 1)) fun s31 =>
lod s31 26 5 v27 fun v32 =>
bnx (
if v32 = (-1) then (
some (.inl (), s31))
else
lod s31 24 50 (w32 (w32 (5 * w32 (w32 (5 * v1) + v27)) + v32)) fun v34 =>
lod s31 24 50 (w32 (w32 (5 * w32 (w32 (5 * v1) + v27)) + y22)) fun v36 =>
if v34 < v36 then (
some (.inr (.inl x11), s31))
else
some (.inl (), s31)) fun (y38 : Unit) s39 =>
sto s39 26 5 v27 y22 fun s41 =>
lb (iand x11 (ixor (ishl 1 y22) (-1))) fun v42 =>
if v32 = (-1) then (
some (.inl v42, s41))
else
lb (ior v42 (ishl 1 v32)) fun v44 =>
some (.inl v44, s41)
def fsN (i f : Nat) : Nat := 32 - 2 ^ (i + 1) + 2 ^ f
theorem fs_low : ∀ i : Nat, i < 5 → ∀ f : Nat, f < i + 1 → ∀ j : Nat, j < f → ¬ iand (ishr ((fsN i f : Nat) : Int) (j : Int)) 1 = 1 := by decide +kernel
theorem fs_hit : ∀ i : Nat, i < 5 → ∀ f : Nat, f < i + 1 → iand (ishr ((fsN i f : Nat) : Int) (f : Int)) 1 = 1 ∧ iand ((fsN i f : Nat) : Int) (ixor (ishl 1 (f : Int)) (-1)) = ((32 - 2 ^ (i + 1) : Nat) : Int) ∧ fsN i f ≠ 0 := by decide +kernel
theorem fs_or : ∀ i : Nat, i < 5 → ∀ f : Nat, f < i + 1 → ior ((32 - 2 ^ (i + 1) : Nat) : Int) (ishl 1 (f : Int)) = ((fsN i f : Nat) : Int) := by decide +kernel
theorem fs_top : ∀ i : Nat, i < 5 → fsN i i = 32 - 2 ^ i := by decide
/-- how it stands: who is free, whom each holds, whom each has asked -/
def ENg (f : Int → Int → Int) (a c : Nat) (fr : Int) (τ : St) (T : Nat) : Prop :=
  (∀ j : Nat, j < 5 → τ 26 j = -1 ∨ (0 ≤ τ 26 j ∧ τ 26 j < c ∧ τ 26 j ≠ fr)) ∧
  (∀ m : Nat, m < 5 → 0 ≤ τ 27 m ∧ τ 27 m ≤ 5) ∧
  (∀ j j' : Nat, j < 5 → j' < 5 → τ 26 j = τ 26 j' → τ 26 j ≠ -1 → j = j') ∧
  (∀ m k j : Nat, m < 5 → k < 5 → j < 5 → (k : Int) < τ 27 m → f ((5 * a + m : Nat) : Int) k = j → τ 26 j ≠ -1) ∧
  (T : Int) = τ 27 0 + τ 27 1 + τ 27 2 + τ 27 3 + τ 27 4
theorem ENg.less {f : Int → Int → Int} {a c m T : Nat} {τ : St} (h : ENg f a c m τ T) (hf : WP f) (ha : a < 2) (hm : m < 5) (hc : c ≤ 5) : τ 27 (m : Int) ≤ 4 := by
  obtain ⟨h1, h2, h3, h4, _⟩ := h
  apply Classical.byContradiction
  intro q
  have a5 : τ 27 (m : Int) = 5 := by have := h2 m hm; omega
  have full : ∀ j : Nat, j < 5 → 0 ≤ τ 26 j ∧ τ 26 j < c ∧ τ 26 j ≠ m := fun j hj => by
    obtain ⟨k, hk, e⟩ := hf.sur (w := 5 * a + m) (by omega) (v := (j : Int)) (by omega) (by omega)
    have ne := h4 m k j hm hk hj (by omega) e
    rcases h1 j hj with z | z
    · exact absurd z ne
    · exact z
  have d : ∀ j j' : Nat, j < 5 → j' < 5 → j ≠ j' → τ 26 j ≠ τ 26 j' := fun j j' hj hj' ne e => ne (h3 j j' hj hj' e (by have := full j hj; omega))
  have f0 := full 0 (by decide)
  have f1 := full 1 (by decide)
  have f2 := full 2 (by decide)
  have f3 := full 3 (by decide)
  have f4 := full 4 (by decide)
  have p : isP (τ 26 ((0 : Nat) : Int)) (τ 26 ((1 : Nat) : Int)) (τ 26 ((2 : Nat) : Int)) (τ 26 ((3 : Nat) : Int)) (τ 26 ((4 : Nat) : Int)) := ⟨by omega, d 0 1 (by decide) (by decide) (by decide), d 0 2 (by decide) (by decide) (by decide), d 0 3 (by decide) (by decide) (by decide), d 0 4 (by decide) (by decide) (by decide), d 1 2 (by decide) (by decide) (by decide), d 1 3 (by decide) (by decide) (by decide), d 1 4 (by decide) (by decide) (by decide), d 2 3 (by decide) (by decide) (by decide), d 2 4 (by decide) (by decide) (by decide), d 3 4 (by decide) (by decide) (by decide)⟩
  have s := sur5 p (v := (m : Int)) (by omega) (by omega)
  omega
theorem ENg.sum {f : Int → Int → Int} {a c m T : Nat} {fr fr' : Int} {τ τ' : St} (h : ENg f a c fr τ T) (hm : m < 5) (h27 : ∀ x : Nat, x < 5 → τ' 27 x = if x = m then τ 27 x + 1 else τ 27 x) (hA : τ 27 (m : Int) ≤ 4) (h1 : ∀ j : Nat, j < 5 → τ' 26 j = -1 ∨ (0 ≤ τ' 26 j ∧ τ' 26 j < c ∧ τ' 26 j ≠ fr')) (h3 : ∀ j j' : Nat, j < 5 → j' < 5 → τ' 26 j = τ' 26 j' → τ' 26 j ≠ -1 → j = j') (hup : ∀ j : Nat, j < 5 → τ 26 j ≠ -1 → τ' 26 j ≠ -1) (hnew : ∀ j : Nat, j < 5 → f ((5 * a + m : Nat) : Int) (τ 27 (m : Int)) = j → τ' 26 j ≠ -1) : ENg f a c fr' τ' (T + 1) := by
  obtain ⟨g1, g2, g3, g4, g5⟩ := h
  refine ⟨h1, fun x hx => ?_, h3, fun x k j hx hk hj hlt e => ?_, ?_⟩
  · rw [h27 x hx]
    have := g2 x hx
    split
    · next e => subst e; omega
    · exact this
  · rw [h27 x hx] at hlt
    by_cases ex : x = m
    · rw [if_pos ex] at hlt
      subst ex
      by_cases ek : (k : Int) = τ 27 (x : Int)
      · rw [ek] at e
        exact hnew j hj e
      · exact hup j hj (g4 x k j hx hk hj (by omega) e)
    · rw [if_neg ex] at hlt
      exact hup j hj (g4 x k j hx hk hj hlt e)
  · have e0 := h27 0 (by decide)
    have e1 := h27 1 (by decide)
    have e2 := h27 2 (by decide)
    have e3 := h27 3 (by decide)
    have e4 := h27 4 (by decide)
    simp only [nc0, nc1, nc2, nc3, nc4] at e0 e1 e2 e3 e4
    rw [e0, e1, e2, e3, e4]
    rcases (show m = 0 ∨ m = 1 ∨ m = 2 ∨ m = 3 ∨ m = 4 by omega) with rfl | rfl | rfl | rfl | rfl <;> simp <;> omega
