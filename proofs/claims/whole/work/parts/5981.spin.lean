/-! a minute: cobwebs -/
theorem spin2 {t : Int} {σ τ : St} (h : MQm t σ τ) {α β : Type} {k1 : Int → St → Rs α} {k2 : Unit → St → Rs β} {P : α → St → β → St → Prop} (hk : ∀ r r' σ' τ', Mv t σ τ σ' τ' → Ok2 (k1 r σ') (k2 r' τ') P) : Ok2 (bnd (fX1_spinCobwebs σ) k1) (bnd (itr FUEL (fun (x66 : Int) s67 =>
fld s67 0 6 fun v69 =>
if x66 < v69 then (
bnd (fX12_sittersOn x66 s67) fun r71 s72 =>
if r71 = 0 then (
lod s72 1 161 (w32 (17 + x66)) fun v74 =>
bnd (fX12_spinsOf x66 s72) fun r76 s77 =>
bnd (fX12_lesser 99 (w32 (v74 + r76)) s77) fun r79 s80 =>
sto s80 1 161 (w32 (17 + x66)) r79 fun s82 =>
some (.inl (w32 (x66 + 1)), s82))
else
some (.inl (w32 (x66 + 1)), s72))
else
(some (.inr (), s67) : Rs (Int ⊕ Unit))) 0 τ) k2) P := by
  obtain ⟨M, hM⟩ : ∃ M : Nat, τ 0 6 = M := ⟨(τ 0 6).toNat, by have := h.1.2.1.1; omega⟩
  have M12 : M ≤ 12 := by have := h.1.2.1.2.1; omega
  unfold fX1_spinCobwebs
  rw [bnd_assoc]
  refine ok2_bnd (ok2_for M (fun i x σ' y τ' => x = (i : Int) ∧ y = (i : Int) ∧ Mv t σ τ σ' τ') (by omega) ⟨rfl, rfl, Mv.rf h⟩ ?_ ?_)
  · rintro i x σ' y τ' hi ⟨rfl, rfl, g⟩
    have hM' : τ' 0 6 = M := (g.2.2.1.2 6 (by decide)).trans hM
    have hR := g.1.1
    obtain ⟨⟨a1, a2, a3, a4, a5, a6⟩, ⟨b1, b2, b3, b4, b5, b6⟩, hp, hq⟩ := hR
    obtain ⟨q1, q2, q3, q4, q5, q6, q7, q8, q9⟩ := hp i (by omega) (by omega)
    simp only [Nat.reduceAdd] at q3 q5
    obtain ⟨n, hn⟩ : ∃ n : Nat, τ' 0 7 = n := ⟨(τ' 0 7).toNat, by omega⟩
    have hv : ∀ i : Nat, i < n → 0 ≤ τ' 1 (41 + (i : Int)) ∧ τ' 1 (41 + (i : Int)) ≤ 12 := fun i hi => by
      obtain ⟨_, _, _, _, _, _, _, _, u1, u2, _⟩ := hq i (by omega) (by omega)
      exact ⟨u1, by omega⟩
    rw [hn, Int.toNat_natCast] at q5
    have bd := cP_bd (f := fun p => τ' 1 (41 + p)) (v := (i : Int) + 1) (n := n)
    have wi := (wq4 (i := i) (by omega)).1
    have w17 := Hd.m (show w32 (17 + (i : Int)) = 17 + i from w32_sm (by omega))
    rw [fld_eq, fld_eq, a5, hM', if_pos (show (i : Int) < (M : Int) by omega), if_pos (show (i : Int) < (M : Int) by omega), lod_eq (by omega), w17.o, wi.o]
    refine ok2_r (ok_mono (m_sitters (p := (i : Int)) (n := n) hn (by omega) hv) ?_)
    rintro r _ ⟨rfl, v, rfl, v1, v2⟩
    have z := sitters_zero v1 (by omega) v2
    by_cases c : (v : Int) = 0
    · have c2 := z.mp c
      rw [if_pos c, if_neg (by rw [q5, c2]; decide), lod_eq (by omega)]
      refine ok2_bnd (ok2_mono (spins2 g.1.1 g.1.2.1 (p1 := (i : Int)) (by omega)) ?_)
      rintro _ σ2 u τ2 ⟨rfl, fx, fm⟩
      have m := Mv.wk g.1 fx fm
      have e6 : σ2 6 = σ' 6 := fx 6 (by decide)
      rw [lesser_eq, bnd_some, lod_eq (by omega), sto_eq (by omega), sto_eq (by omega), e6, q3, ok2_some]
      have m2 : Mv t σ2 τ2 (up σ2 6 (i : Int) (imn 99 (w32 (τ' 1 (17 + (i : Int)) + u)))) (up τ2 1 (17 + (i : Int)) (imn 99 (w32 (τ' 1 (17 + (i : Int)) + u)))) := Mv.nb m.1 (by repeat (first | exact Fr.rf | exact fx | refine Fr.up ?_ (by decide))) (by repeat (first | exact Fm.rf | exact fm | exact fm.mono (by decide) (by decide) | refine Fm.u0 ?_ (by decide) | refine Fm.up ?_ (by decide) (by decide))) (by (simp only [up_g, Nat.reduceAdd, true_and, and_true, false_and, and_false, Nat.reduceEqDiff, if_false, if_true]) <;> (repeat (first | rw [if_neg (by omega)] | rw [if_pos (by omega)])) <;> (first | assumption | omega)) (m.1.1.cobw (by omega) (by rw [m.2.2.1.2 6 (by decide)]; omega))
      exact ⟨rfl, rfl, g.tr (m.tr m2)⟩
    · have c2 : ¬ cP n (fun p => τ' 1 (41 + p)) ((i : Int) + 1) = 0 := fun e => c (z.mpr e)
      rw [if_neg c, if_pos (by omega), ok2_some]
      exact ⟨rfl, rfl, g⟩
  · rintro x σ' y τ' ⟨rfl, rfl, g⟩
    have hM' : τ' 0 6 = M := (g.2.2.1.2 6 (by decide)).trans hM
    have a5 := g.1.1.1.2.2.2.2.1
    rw [fld_eq, fld_eq, a5, hM', if_neg (by omega), if_neg (by omega), ok2_some]
    show Ok2 (bnd (some ((0 : Int), σ')) k1) _ P
    rw [bnd_some]
    exact hk _ _ _ _ g
