/-! two runs side by side -/
def Ok2 {α β : Type} (h1 : Rs α) (h2 : Rs β) (P : α → St → β → St → Prop) : Prop := Ok h1 fun x σ => Ok h2 fun y τ => P x σ y τ
theorem ok2_some {α β : Type} {x : α} {y : β} {σ τ : St} {P : α → St → β → St → Prop} : Ok2 (some (x, σ)) (some (y, τ)) P ↔ P x σ y τ := by unfold Ok2; rw [ko_some, ko_some]
theorem ok2_mono {α β : Type} {h1 : Rs α} {h2 : Rs β} {P Q : α → St → β → St → Prop} (o : Ok2 h1 h2 P) (hq : ∀ x σ y τ, P x σ y τ → Q x σ y τ) : Ok2 h1 h2 Q :=
  ok_mono o fun x σ o => ok_mono o fun y τ p => hq x σ y τ p
theorem ok2_bnd {α β γ δ : Type} {h1 : Rs α} {h2 : Rs β} {k1 : α → St → Rs γ} {k2 : β → St → Rs δ} {P : γ → St → δ → St → Prop} (o : Ok2 h1 h2 fun x σ y τ => Ok2 (k1 x σ) (k2 y τ) P) : Ok2 (bnd h1 k1) (bnd h2 k2) P := by
  obtain ⟨x, σ, rfl, y, τ, rfl, o⟩ := o
  exact o
/-- the left run goes ahead -/
theorem ok2_l {α β γ : Type} {h1 : Rs α} {h2 : Rs β} {k1 : α → St → Rs γ} {P : γ → St → β → St → Prop} (o : Ok h1 fun x σ => Ok2 (k1 x σ) h2 P) : Ok2 (bnd h1 k1) h2 P := by
  obtain ⟨x, σ, rfl, o⟩ := o
  exact o
/-- the right run goes ahead -/
theorem ok2_r {α β δ : Type} {h1 : Rs α} {h2 : Rs β} {k2 : β → St → Rs δ} {P : α → St → δ → St → Prop} (o : Ok h2 fun y τ => Ok2 h1 (k2 y τ) P) : Ok2 h1 (bnd h2 k2) P := by
  obtain ⟨y, τ, rfl, o⟩ := o
  exact o
theorem ok2_for {β γ β2 γ2 : Type} {b1 : β → St → Rs (β ⊕ γ)} {b2 : β2 → St → Rs (β2 ⊕ γ2)} {P : γ → St → γ2 → St → Prop} {x0 : β} {σ0 : St} {y0 : β2} {τ0 : St} (n : Nat) (I : Nat → β → St → β2 → St → Prop) (hn : n < 100000000) (h0 : I 0 x0 σ0 y0 τ0)
    (hs : ∀ i x σ y τ, i < n → I i x σ y τ → Ok2 (b1 x σ) (b2 y τ) fun r σ' q τ' => match r, q with
      | .inl x', .inl y' => I (i + 1) x' σ' y' τ'
      | .inr r, .inr q => P r σ' q τ'
      | _, _ => False)
    (he : ∀ x σ y τ, I n x σ y τ → Ok2 (b1 x σ) (b2 y τ) fun r σ' q τ' => match r, q with
      | .inr r, .inr q => P r σ' q τ'
      | _, _ => False) : Ok2 (itr FUEL b1 x0 σ0) (itr FUEL b2 y0 τ0) P := by
  refine for_ok2 n I hn h0 (fun i x σ y τ hi hI => ?_) (fun x σ y τ hI => ?_)
  · obtain ⟨r, σ', e, q, τ', e2, h⟩ := hs i x σ y τ hi hI
    refine ⟨r, σ', e, ?_⟩
    cases r with
    | inl x' => cases q with
      | inl y' => exact ⟨_, τ', e2, h⟩
      | inr q => exact False.elim h
    | inr r => cases q with
      | inl y' => exact False.elim h
      | inr q => exact ⟨_, τ', e2, h⟩
  · obtain ⟨r, σ', e, q, τ', e2, h⟩ := he x σ y τ hI
    refine ⟨r, σ', e, ?_⟩
    cases r with
    | inl x' => cases q with
      | inl y' => exact False.elim h
      | inr q => exact False.elim h
    | inr r => cases q with
      | inl y' => exact False.elim h
      | inr q => exact ⟨_, τ', e2, h⟩
theorem w32_l (a b : Int) : w32 (w32 a + b) = w32 (a + b) := by unfold w32; omega
theorem w32_r (a b : Int) : w32 (a + w32 b) = w32 (a + b) := by unfold w32; omega
theorem w32_ls (a b : Int) : w32 (w32 a - b) = w32 (a - b) := by unfold w32; omega
theorem w32_rs (a b : Int) : w32 (a - w32 b) = w32 (a - b) := by unfold w32; omega
theorem apart_eq {a : Int} (h : rg a) {σ : St} : fX12_apart a 0 σ = some (iab a, σ) := by
  unfold rg at h
  unfold fX12_apart iab
  by_cases h1 : 0 < a
  · rw [if_pos h1, if_pos (by omega), w32_sm (by omega), show a - 0 = a by omega]
  · rw [if_neg h1]
    by_cases h2 : 0 ≤ a
    · rw [if_pos h2, w32_sm (by omega), show 0 - a = a by omega]
    · rw [if_neg h2]
theorem imx_comm (a b : Int) : imx a b = imx b a := by unfold imx; split <;> split <;> omega
/-! LEVEL -/
theorem l_shovels {σ τ : St} (h : Rl σ τ) : Ok2 (fX4_fewestShovels σ) (fX12_levelled τ) fun r σ' r' τ' => r' = r ∧ σ' = σ ∧ τ' = τ := by
  obtain ⟨⟨w0, w1, w2, w3⟩, w4⟩ := h.c_RBoard
  simp only [Nat.reduceAdd] at w0 w1 w4
  have g : ∀ i : Nat, (i : Int) < τ 0 62 → fX6_get 36 37 12 i 0 σ = some (τ 39 i, σ) := by
    intro i hi
    rw [row_get w0 (by omega) (by omega) (by omega), if_pos (by omega), Int.mul_one, Int.add_zero, (w4 i (by omega) hi).1]
  obtain ⟨n, hn⟩ : ∃ n : Nat, τ 0 62 = n := ⟨(τ 0 62).toNat, by omega⟩
  rw [hn] at w1 w2 w3 w4 g
  unfold fX4_fewestShovels fX12_levelled
  simp only [row_size, bnd_some, w1]
  by_cases c : (n : Int) = 0
  · rw [if_pos c]
    refine ok2_r (for_ok 0 (fun _ x τ' => x = (0, 0) ∧ τ' = τ) (by decide) ⟨rfl, rfl⟩ (fun i _ _ hi => by omega) ?_)
    rintro x τ' ⟨rfl, rfl⟩
    simp only [ko_some, ko_none, ko_if, ko_bnd, ko_bnx, ko_lod, ko_sto, ko_stb, ko_fld, ko_put, ko_lb, ko_dvc, ko_loa, ko_cpy, ko_jl, ko_jr, i01, i10, up_g, if_false, if_true, Int.reduceEq, Nat.reduceEqDiff, Classical.not_not, within_eq, isIn_eq, hasPorch_eq, hasPerson_eq, isPorch_eq, isPerson_eq, not_true_eq_false, not_false_eq_true, true_and, and_true, false_and, and_false, false_imp_iff, true_imp_iff, implies_true, hn, c]
    simp [Ok2, fld_eq, ko_some, hn, c]
  · rw [if_neg c]
    refine ok2_bnd (ok2_for n (fun i x σ' y τ' => (∃ a : Int, x = (a, (i : Int)) ∧ y = (a, (i : Int))) ∧ σ' = σ ∧ τ' = τ) (by omega) ⟨⟨0, rfl, rfl⟩, rfl, rfl⟩ ?_ ?_)
    · rintro i x σ' y τ' hi ⟨⟨a, rfl, rfl⟩, rfl, rfl⟩
      simp only [fld_eq, hn, if_pos (show (i : Int) < n by omega), g i (by omega), bnd_some, lod_eq (show (0 : Int) ≤ i ∧ (i : Int) < (12 : Nat) by omega), lb_eq, ok2_some]
      exact ⟨⟨_, by rw [w32_nat (by omega)], by rw [w32_nat (by omega)]⟩, trivial, trivial⟩
    · rintro x σ' y τ' ⟨⟨a, rfl, rfl⟩, rfl, rfl⟩
      simp only [fld_eq, hn, if_neg (show ¬ (n : Int) < n by omega), ok2_some, if_neg c, dvc_eq c]
      by_cases c2 : irm a n = 0
      · simp only [if_pos c2]
        refine ok2_bnd (ok2_for n (fun i x σ'' y τ'' => (∃ u v : Int, x = (u, v, (i : Int)) ∧ y = (v, u, (i : Int))) ∧ σ'' = σ' ∧ τ'' = τ') (by omega) ⟨⟨0, 0, rfl, rfl⟩, rfl, rfl⟩ ?_ ?_)
        · rintro i x σ' y τ' hi ⟨⟨u, v, rfl, rfl⟩, rfl, rfl⟩
          simp only [fld_eq, hn, if_pos (show (i : Int) < n by omega), g i (by omega), bnd_some, lod_eq (show (0 : Int) ≤ i ∧ (i : Int) < (12 : Nat) by omega), lb_eq, dvc_eq c, apart_eq (w32_rg _), ok2_some, w32_r, w32_ls]
          refine ⟨⟨_, _, by rw [w32_nat (by omega)], ?_⟩, trivial, trivial⟩
          rw [w32_nat (by omega), show u + τ' 39 i - idv a n = u + (τ' 39 i - idv a n) by omega]
        · rintro x σ' y τ' ⟨⟨u, v, rfl, rfl⟩, rfl, rfl⟩
          simp only [fld_eq, hn, if_neg (show ¬ (n : Int) < n by omega), ok2_some]
          trivial
      · simp only [if_neg c2, ok2_some]
        trivial
