/-! LAMPS -/
theorem cP_hit {f : Int → Int} {v : Int} : ∀ {n : Nat} {h : Nat}, h < n → f h = v → 1 ≤ cP n f v := by
  intro n
  induction n with
  | zero => intro h hh; exact absurd hh (Nat.not_lt_zero h)
  | succ n ih =>
    intro h hh hv
    rw [cP]
    by_cases e : h = n
    · rw [← e, if_pos hv]
      have := (cP_bd (n := h) (f := f) (v := v)).1
      omega
    · have := ih (h := h) (by omega) hv
      split <;> omega
theorem cP_set {f g : Int → Int} {v : Int} {h : Nat} (hv : f h = v) (hg : g h ≠ v) (ho : ∀ j : Nat, j ≠ h → g j = f j) : ∀ {n : Nat}, h < n → cP n g v = cP n f v - 1 := by
  intro n
  induction n with
  | zero => intro hh; exact absurd hh (Nat.not_lt_zero h)
  | succ n ih =>
    intro hh
    rw [cP, cP]
    by_cases e : h = n
    · subst e
      rw [if_pos hv, if_neg hg, cP_cong (fun k hk => ho k (by omega))]
      omega
    · rw [ih (by omega), ho n (fun q => e q.symm)]
      omega
def vld (A B C h : Int) : Prop := 0 ≤ h ∧ h < 169 ∧ h / 13 ≤ B ∧ h % 13 ≤ C ∧ h / 13 + h % 13 ≤ A
def eC (A h : Int) : Int := 169 * (A - h / 13 - h % 13) + h
def can3 (x y z i : Int) : Int := if i = 0 then x else if i = 1 then y else z
/-- how much is poured, and what there is then -/
def mch (x y z A B C f t : Int) : Int := imn (can3 x y z f) (can3 A B C t - can3 x y z t)
def nw3 (x y z A B C f t i : Int) : Int := can3 x y z i + (if i = t then mch x y z A B C f t else 0) - (if i = f then mch x y z A B C f t else 0)
theorem nw3_vld {A B C y z f t : Int} (hA : 1 ≤ A ∧ A ≤ 12) (hB : 1 ≤ B ∧ B ≤ 12) (hC : 1 ≤ C ∧ C ≤ 12) (hy : 0 ≤ y ∧ y ≤ B) (hz : 0 ≤ z ∧ z ≤ C) (hx : y + z ≤ A) (hf : 0 ≤ f ∧ f ≤ 2) (ht : 0 ≤ t ∧ t ≤ 2) (hft : f ≠ t) :
    0 ≤ nw3 (A - y - z) y z A B C f t 0 ∧ (0 ≤ nw3 (A - y - z) y z A B C f t 1 ∧ nw3 (A - y - z) y z A B C f t 1 ≤ B) ∧ (0 ≤ nw3 (A - y - z) y z A B C f t 2 ∧ nw3 (A - y - z) y z A B C f t 2 ≤ C) ∧ nw3 (A - y - z) y z A B C f t 0 = A - nw3 (A - y - z) y z A B C f t 1 - nw3 (A - y - z) y z A B C f t 2 := by
  rcases (show f = 0 ∨ f = 1 ∨ f = 2 by omega) with rfl | rfl | rfl <;> rcases (show t = 0 ∨ t = 1 ∨ t = 2 by omega) with rfl | rfl | rfl <;> simp [nw3, mch, can3, imn] at hft ⊢ <;> split <;> omega
theorem c_see {A B C y z : Int} {σ' : St} (hA : 1 ≤ A ∧ A ≤ 12) (hy : 0 ≤ y ∧ y ≤ 12) (hz : 0 ≤ z ∧ z ≤ 12) (h0 : σ' 168 0 = A) : fX4_seeCans (13 * y + z) σ' = some (0, up (up (up σ' 167 1 y) 167 2 z) 167 0 (A - y - z)) := by
  have e1 : idv (13 * y + z) 13 = y := by rw [idv_nn (by omega) (by decide) (by omega)]; omega
  have e2 : irm (13 * y + z) 13 = z := by rw [irm_nn (by omega)]; omega
  unfold fX4_seeCans
  rw [e1, e2]
  simp only [dvc_eq (show (13 : Int) ≠ 0 by decide), sto_eq (show (0 : Int) ≤ 1 ∧ (1 : Int) < (3 : Nat) by decide), sto_eq (show (0 : Int) ≤ 2 ∧ (2 : Int) < (3 : Nat) by decide), sto_eq (show (0 : Int) ≤ 0 ∧ (0 : Int) < (3 : Nat) by decide), lod_eq (show (0 : Int) ≤ 1 ∧ (1 : Int) < (3 : Nat) by decide), lod_eq (show (0 : Int) ≤ 2 ∧ (2 : Int) < (3 : Nat) by decide), lod_eq (show (0 : Int) ≤ 0 ∧ (0 : Int) < (3 : Nat) by decide), up_g, Nat.reduceEqDiff, Int.reduceEq, false_and, and_false, true_and, and_true, if_false, if_true, h0]
  rw [w32_ls, w32_sm (by omega)]
theorem c_pour {A B C y z f t : Int} {σ' : St} (hA : 1 ≤ A ∧ A ≤ 12) (hB : 1 ≤ B ∧ B ≤ 12) (hC : 1 ≤ C ∧ C ≤ 12) (hy : 0 ≤ y ∧ y ≤ B) (hz : 0 ≤ z ∧ z ≤ C) (hx : y + z ≤ A) (hf : 0 ≤ f ∧ f ≤ 2) (ht : 0 ≤ t ∧ t ≤ 2) (hft : f ≠ t) (h0 : σ' 168 0 = A) (h1 : σ' 168 1 = B) (h2 : σ' 168 2 = C) :
    ∃ σ3 c, Fr [167] σ' σ3 ∧ c = 13 * nw3 (A - y - z) y z A B C f t 1 + nw3 (A - y - z) y z A B C f t 2 ∧ fX4_pour (13 * y + z) f t σ' = bnd (fX4_enqueue c (w32 (σ' 165 (13 * y + z) + 1)) σ3) fun _ s => some (0, s) := by
  unfold fX4_pour
  rw [c_see (B := B) (C := C) hA (by omega) (by omega) h0, bnd_some]
  have l3 : ∀ {β : Type} {σ : St} {k : Nat} {i : Int} {g : Int → Rs β}, 0 ≤ i ∧ i ≤ 2 → lod σ k 3 i g = g (σ k i) := fun {β σ k i g} h => lod_eq (by omega)
  have s3 : ∀ {β : Type} {σ : St} {k : Nat} {i v : Int} {g : St → Rs β}, 0 ≤ i ∧ i ≤ 2 → sto σ k 3 i v g = g (up σ k i v) := fun {β σ k i v g} h => sto_eq (by omega)
  have c01 : (0 : Int) ≤ 1 ∧ (1 : Int) ≤ 2 := by decide
  have c02 : (0 : Int) ≤ 2 ∧ (2 : Int) ≤ 2 := by decide
  have hl : (0 : Int) ≤ 13 * y + z ∧ 13 * y + z < (169 : Nat) := by omega
  rcases (show f = 0 ∨ f = 1 ∨ f = 2 by omega) with rfl | rfl | rfl <;> rcases (show t = 0 ∨ t = 1 ∨ t = 2 by omega) with rfl | rfl | rfl
  all_goals (try (exact absurd rfl hft))
  all_goals
    simp only [l3 hf, l3 ht, s3 hf, s3 ht, l3 c01, l3 c02, lb_eq, up_g, Nat.reduceEqDiff, Int.reduceEq, false_and, and_false, true_and, and_true, if_false, if_true, h0, h1, h2, lod_eq hl]
    refine ⟨_, _, ?_, ?_, rfl⟩
    · exact (((((Fr.rf.up (by decide)).up (by decide)).up (by decide)).up (by decide)).up (by decide))
    · simp only [nw3, mch, can3, Int.reduceEq, if_false, if_true]
      simp (disch := omega) only [w32_sm]
      unfold imn
      split <;> simp (disch := omega) only [w32_sm] <;> omega
