/-! LOOK -/
theorem look_mask {σ τ : St} {c : Nat} {b p1 : Int} (hb : (if p1 = 5 then (41 : Int) else 141) = b) (h0 : σ 3 5 = τ 0 7) (h1 : 0 ≤ τ 0 7) (h2 : τ 0 7 ≤ 20) (hv : ∀ p, 0 ≤ p → p < τ 0 7 → σ c p = τ 1 (b + p) - 1 ∧ 0 ≤ τ 1 (b + p)) : Ok2 (itr FUEL (fun (x1 : Int × Int) s2 =>
fld s2 3 5 fun v4 =>
if x1.2 < v4 then (
lod s2 c 20 x1.2 fun v6 =>
if v6 = (-1) then (
some (.inl (x1.1, w32 (x1.2 + 1)), s2))
else
lb (ior x1.1 (ishl 1 x1.2)) fun v8 =>
some (.inl (v8, w32 (x1.2 + 1)), s2))
else
(some (.inr x1.1, s2) : Rs ((Int × Int) ⊕ Int))) (0, 0) σ) (itr FUEL (fun (x5 : Int × Int) s6 =>
fld s6 0 7 fun v8 =>
if x5.2 < v8 then (
bnd (
if p1 = 5 then (
some (41, s6))
else
some (141, s6)) fun (y10 : Int) s11 =>
lod s11 1 161 (w32 (y10 + x5.2)) fun v13 =>
if 0 < v13 then (
lb (ior x5.1 (ishl 1 x5.2)) fun v15 =>
some (.inl (v15, w32 (x5.2 + 1)), s11))
else
some (.inl (x5.1, w32 (x5.2 + 1)), s11))
else
(some (.inr x5.1, s6) : Rs ((Int × Int) ⊕ Int))) (0, 0) τ) fun x σ' y τ' => y = x ∧ σ = σ' ∧ τ = τ' := by
  obtain ⟨n, hn⟩ : ∃ n : Nat, τ 0 7 = n := ⟨(τ 0 7).toNat, by omega⟩
  have b1 : 0 ≤ b ∧ b ≤ 141 := by
    rw [← hb]
    split <;> decide
  refine ok2_for n (fun i x σ' y τ' => σ = σ' ∧ τ = τ' ∧ ∃ a : Int, x = (a, (i : Int)) ∧ y = (a, (i : Int))) (by omega) ⟨rfl, rfl, 0, rfl, rfl⟩ ?_ ?_
  · rintro i x σ' y τ' hi ⟨rfl, rfl, a, rfl, rfl⟩
    obtain ⟨q1, q2⟩ := hv i (by omega) (by omega)
    have hy : (if p1 = 5 then (some (41, τ) : Rs Int) else some (141, τ)) = some (b, τ) := by
      rw [← hb]
      split <;> rfl
    have hw : w32 (b + (i : Int)) = b + i := w32_sm (by omega)
    have wi : w32 ((i : Int) + 1) = ((i + 1 : Nat) : Int) := w32_nat (by omega)
    dsimp only
    rw [fld_eq, fld_eq, h0, hn, if_pos (by omega), if_pos (by omega), hy, bnd_some, hw, lod_eq (by omega), lod_eq (by omega), q1, wi]
    by_cases c : 0 < τ 1 (b + (i : Int))
    · rw [if_neg (by omega), if_pos c, lb_eq, lb_eq, ok2_some]
      exact ⟨rfl, rfl, _, rfl, rfl⟩
    · rw [if_pos (by omega), if_neg c, ok2_some]
      exact ⟨rfl, rfl, _, rfl, rfl⟩
  · rintro x σ' y τ' ⟨rfl, rfl, a, rfl, rfl⟩
    dsimp only
    rw [fld_eq, fld_eq, h0, hn, if_neg (Int.lt_irrefl _), if_neg (Int.lt_irrefl _), ok2_some]
    exact ⟨rfl, rfl, rfl⟩
theorem s_look {σ τ : St} (h : Rl σ τ) {p1 : Int} : Sim (fX11_look p1 σ) (fX12_look p1 τ) := by
  unfold fX12_look
  refine sim_t0 h ?_
  clear h
  intro τ h
  refine Sim.of h ?_
  obtain ⟨⟨a1, a2, a3, a4, a5, a6⟩, ⟨b1, b2, b3, b4, b5, b6⟩, hp, hq⟩ := h.c_RH
  have k1 := h.c_RLaw.1.2.2.1
  have k2 := h.c_RCalls.1.2.1
  have k3 := h.c_REven.1.2.1
  have k4 := h.c_RStreet.1.2.1
  have k5 := h.c_RU.1.2.2.1
  have k6 := h.c_RB.1.2.1
  simp only [Nat.reduceAdd] at k1 k2 k3 k4 k5 k6
  clear h
  have sit : Ok2 (fX2_allSitters σ) _ _ := ok2_bnd (ok2_mono (look_mask (c := 11) (b := 41) (p1 := 5) rfl a6 b3 b4 fun p p0 p1 => ⟨(hq p p0 p1).2.2.1, (hq p p0 p1).2.2.2.2.2.2.2.2.1⟩) (Q := fun x σ' y τ' => Ok2 (some (x, σ')) (some (y, τ')) fun x σ' y τ' => y = x ∧ Fr wX σ σ' ∧ Fm wM wJ τ τ') (by rintro x _ y _ ⟨rfl, rfl, rfl⟩; rw [ok2_some]; exact ⟨rfl, Fr.rf, Fm.rf⟩))
  have acc : Ok2 (fX2_allAccepted σ) _ _ := ok2_bnd (ok2_mono (look_mask (c := 16) (b := 141) (p1 := 6) rfl a6 b3 b4 fun p p0 p1 => ⟨(hq p p0 p1).2.2.2.2.2.2.2.1, (hq p p0 p1).2.2.2.2.2.2.2.2.2.2.1⟩) (Q := fun x σ' y τ' => Ok2 (some (x, σ')) (some (y, τ')) fun x σ' y τ' => y = x ∧ Fr wX σ σ' ∧ Fm wM wJ τ τ') (by rintro x _ y _ ⟨rfl, rfl, rfl⟩; rw [ok2_some]; exact ⟨rfl, Fr.rf, Fm.rf⟩))
  clear hp hq
  unfold fX11_look
  have l0 : ∀ {β : Type} {i : Int} {g : Int → Rs β}, 0 ≤ i ∧ i ≤ 4 → lod τ 1 161 i g = g (τ 1 i) := fun {β i g} h => lod_eq (by omega)
  by_cases c0 : p1 = 0
  · subst c0
    simp only [Int.reduceEq, if_true, if_false, fld_eq]
    rw [ok2_some]
    exact ⟨a5.symm, Fr.rf, Fm.rf⟩
  by_cases c1 : p1 = 1
  · subst c1
    simp only [Int.reduceEq, if_true, if_false, fld_eq]
    rw [ok2_some]
    exact ⟨a6.symm, Fr.rf, Fm.rf⟩
  by_cases c2 : p1 = 2
  · subst c2
    simp only [Int.reduceEq, if_true, if_false, fld_eq]
    rw [l0 (by decide), ok2_some]
    exact ⟨a2.symm, Fr.rf, Fm.rf⟩
  by_cases c3 : p1 = 3
  · subst c3
    simp only [Int.reduceEq, if_true, if_false, fld_eq]
    rw [l0 (by decide), ok2_some]
    exact ⟨a3.symm, Fr.rf, Fm.rf⟩
  by_cases c4 : p1 = 4
  · subst c4
    simp only [Int.reduceEq, if_true, if_false, fld_eq]
    rw [l0 (by decide), ok2_some]
    exact ⟨a4.symm, Fr.rf, Fm.rf⟩
  by_cases c5 : p1 = 5
  · subst c5
    simp only [Int.reduceEq, if_true, if_false, bnx_inl, bnd_id] at sit ⊢
    exact sit
  by_cases c6 : p1 = 6
  · subst c6
    simp only [Int.reduceEq, if_true, if_false, bnx_inl, bnd_id] at acc ⊢
    exact acc
  by_cases c7 : p1 = 7
  · subst c7
    simp only [Int.reduceEq, if_true, if_false, row_size, bnd_some]
    rw [l0 (by decide), ok2_some]
    exact ⟨k6.symm, Fr.rf, Fm.rf⟩
  by_cases c8 : p1 = 8
  · subst c8
    simp only [Int.reduceEq, if_true, if_false, fld_eq]
    rw [l0 (by decide), ok2_some]
    exact ⟨a1.symm, Fr.rf, Fm.rf⟩
  by_cases c9 : p1 = 9
  · subst c9
    simp only [Int.reduceEq, if_true, if_false, row_size, bnd_some]
    rw [lod_eq (by decide), ok2_some]
    exact ⟨k1.symm, Fr.rf, Fm.rf⟩
  by_cases c10 : p1 = 10
  · subst c10
    simp only [Int.reduceEq, if_true, if_false, row_size, bnd_some, fld_eq]
    rw [ok2_some]
    exact ⟨k2.symm, Fr.rf, Fm.rf⟩
  by_cases c11 : p1 = 11
  · subst c11
    simp only [Int.reduceEq, if_true, if_false, row_size, bnd_some, fld_eq]
    rw [ok2_some]
    exact ⟨k3.symm, Fr.rf, Fm.rf⟩
  by_cases c12 : p1 = 12
  · subst c12
    simp only [Int.reduceEq, if_true, if_false, row_size, bnd_some, fld_eq]
    rw [ok2_some]
    exact ⟨k4.symm, Fr.rf, Fm.rf⟩
  by_cases c13 : p1 = 13
  · subst c13
    simp only [Int.reduceEq, if_true, if_false, fX10_size, bnd_some, fld_eq]
    rw [ok2_some]
    exact ⟨k5.symm, Fr.rf, Fm.rf⟩
  · simp only [c0, c1, c2, c3, c4, c5, c6, c7, c8, c9, c10, c11, c12, c13, if_false, bnx_inr]
    rw [ok2_some]
    exact ⟨rfl, Fr.rf, Fm.rf⟩
