/-! LAMPS -/
theorem cP_hit {f : Int → Int} {v : Int} : ∀ {n : Nat} {h : Nat}, h < n → f h = v → 1 ≤ cP n f v := by
  intro n
  induction n with
  | zero => intro h hh; exact absurd hh (Nat.not_lt_zero h)
  | succ n ih =>
    intro h hh hv
    rw [cP]
    by_cases e : h = n
    · rw [← e, if_pos hv]
      have := (cP_bd (n := h) (f := f) (v := v)).1
      omega
    · have := ih (h := h) (by omega) hv
      split <;> omega
theorem cP_set {f g : Int → Int} {v : Int} {h : Nat} (hv : f h = v) (hg : g h ≠ v) (ho : ∀ j : Nat, j ≠ h → g j = f j) : ∀ {n : Nat}, h < n → cP n g v = cP n f v - 1 := by
  intro n
  induction n with
  | zero => intro hh; exact absurd hh (Nat.not_lt_zero h)
  | succ n ih =>
    intro hh
    rw [cP, cP]
    by_cases e : h = n
    · subst e
      rw [if_pos hv, if_neg hg, cP_cong (fun k hk => ho k (by omega))]
      omega
    · rw [ih (by omega), ho n (fun q => e q.symm)]
      omega
def vld (A B C h : Int) : Prop := 0 ≤ h ∧ h < 169 ∧ h / 13 ≤ B ∧ h % 13 ≤ C ∧ h / 13 + h % 13 ≤ A
def eC (A h : Int) : Int := 169 * (A - h / 13 - h % 13) + h
def can3 (x y z i : Int) : Int := if i = 0 then x else if i = 1 then y else z
/-- how much is poured, and what there is then -/
def mch (x y z A B C f t : Int) : Int := imn (can3 x y z f) (can3 A B C t - can3 x y z t)
def nw3 (x y z A B C f t i : Int) : Int := can3 x y z i + (if i = t then mch x y z A B C f t else 0) - (if i = f then mch x y z A B C f t else 0)
theorem nw3_vld {A B C y z f t : Int} (hA : 1 ≤ A ∧ A ≤ 12) (hB : 1 ≤ B ∧ B ≤ 12) (hC : 1 ≤ C ∧ C ≤ 12) (hy : 0 ≤ y ∧ y ≤ B) (hz : 0 ≤ z ∧ z ≤ C) (hx : y + z ≤ A) (hf : 0 ≤ f ∧ f ≤ 2) (ht : 0 ≤ t ∧ t ≤ 2) (hft : f ≠ t) :
    0 ≤ nw3 (A - y - z) y z A B C f t 0 ∧ (0 ≤ nw3 (A - y - z) y z A B C f t 1 ∧ nw3 (A - y - z) y z A B C f t 1 ≤ B) ∧ (0 ≤ nw3 (A - y - z) y z A B C f t 2 ∧ nw3 (A - y - z) y z A B C f t 2 ≤ C) ∧ nw3 (A - y - z) y z A B C f t 0 = A - nw3 (A - y - z) y z A B C f t 1 - nw3 (A - y - z) y z A B C f t 2 := by
  rcases (show f = 0 ∨ f = 1 ∨ f = 2 by omega) with rfl | rfl | rfl <;> rcases (show t = 0 ∨ t = 1 ∨ t = 2 by omega) with rfl | rfl | rfl <;> simp [nw3, mch, can3, imn] at hft ⊢ <;> split <;> omega
theorem c_see {A B C y z : Int} {σ' : St} (hA : 1 ≤ A ∧ A ≤ 12) (hy : 0 ≤ y ∧ y ≤ 12) (hz : 0 ≤ z ∧ z ≤ 12) (h0 : σ' 168 0 = A) : fX4_seeCans (13 * y + z) σ' = some (0, up (up (up σ' 167 1 y) 167 2 z) 167 0 (A - y - z)) := by
  have e1 : idv (13 * y + z) 13 = y := by rw [idv_nn (by omega) (by decide) (by omega)]; omega
  have e2 : irm (13 * y + z) 13 = z := by rw [irm_nn (by omega)]; omega
  unfold fX4_seeCans
  rw [e1, e2]
  simp only [dvc_eq (show (13 : Int) ≠ 0 by decide), sto_eq (show (0 : Int) ≤ 1 ∧ (1 : Int) < (3 : Nat) by decide), sto_eq (show (0 : Int) ≤ 2 ∧ (2 : Int) < (3 : Nat) by decide), sto_eq (show (0 : Int) ≤ 0 ∧ (0 : Int) < (3 : Nat) by decide), lod_eq (show (0 : Int) ≤ 1 ∧ (1 : Int) < (3 : Nat) by decide), lod_eq (show (0 : Int) ≤ 2 ∧ (2 : Int) < (3 : Nat) by decide), lod_eq (show (0 : Int) ≤ 0 ∧ (0 : Int) < (3 : Nat) by decide), up_g, Nat.reduceEqDiff, Int.reduceEq, false_and, and_false, true_and, and_true, if_false, if_true, h0]
  rw [w32_ls, w32_sm (by omega)]
theorem c_pour {A B C y z f t : Int} {σ' : St} (hA : 1 ≤ A ∧ A ≤ 12) (hB : 1 ≤ B ∧ B ≤ 12) (hC : 1 ≤ C ∧ C ≤ 12) (hy : 0 ≤ y ∧ y ≤ B) (hz : 0 ≤ z ∧ z ≤ C) (hx : y + z ≤ A) (hf : 0 ≤ f ∧ f ≤ 2) (ht : 0 ≤ t ∧ t ≤ 2) (hft : f ≠ t) (h0 : σ' 168 0 = A) (h1 : σ' 168 1 = B) (h2 : σ' 168 2 = C) :
    ∃ σ3 c, Fr [167] σ' σ3 ∧ c = 13 * nw3 (A - y - z) y z A B C f t 1 + nw3 (A - y - z) y z A B C f t 2 ∧ fX4_pour (13 * y + z) f t σ' = bnd (fX4_enqueue c (w32 (σ' 165 (13 * y + z) + 1)) σ3) fun _ s => some (0, s) := by
  unfold fX4_pour
  rw [c_see (B := B) (C := C) hA (by omega) (by omega) h0, bnd_some]
  have l3 : ∀ {β : Type} {σ : St} {k : Nat} {i : Int} {g : Int → Rs β}, 0 ≤ i ∧ i ≤ 2 → lod σ k 3 i g = g (σ k i) := fun {β σ k i g} h => lod_eq (by omega)
  have s3 : ∀ {β : Type} {σ : St} {k : Nat} {i v : Int} {g : St → Rs β}, 0 ≤ i ∧ i ≤ 2 → sto σ k 3 i v g = g (up σ k i v) := fun {β σ k i v g} h => sto_eq (by omega)
  have c01 : (0 : Int) ≤ 1 ∧ (1 : Int) ≤ 2 := by decide
  have c02 : (0 : Int) ≤ 2 ∧ (2 : Int) ≤ 2 := by decide
  have hl : (0 : Int) ≤ 13 * y + z ∧ 13 * y + z < (169 : Nat) := by omega
  rcases (show f = 0 ∨ f = 1 ∨ f = 2 by omega) with rfl | rfl | rfl <;> rcases (show t = 0 ∨ t = 1 ∨ t = 2 by omega) with rfl | rfl | rfl
  all_goals (try (exact absurd rfl hft))
  all_goals
    simp only [l3 hf, l3 ht, s3 hf, s3 ht, l3 c01, l3 c02, lb_eq, up_g, Nat.reduceEqDiff, Int.reduceEq, false_and, and_false, true_and, and_true, if_false, if_true, h0, h1, h2, lod_eq hl]
    refine ⟨_, _, ?_, ?_, rfl⟩
    · exact (((((Fr.rf.up (by decide)).up (by decide)).up (by decide)).up (by decide)).up (by decide))
    · simp only [nw3, mch, can3, Int.reduceEq, if_false, if_true]
      simp (disch := omega) only [w32_sm]
      unfold imn
      split <;> simp (disch := omega) only [w32_sm] <;> omega
theorem m_takes {x y z : Int} {τ' : St} (hx : 0 ≤ x ∧ x ≤ 12) (hy : 0 ≤ y ∧ y ≤ 12) (hz : 0 ≤ z ∧ z ≤ 12) : fX12_takesCans (169 * x + 13 * y + z) τ' = some (0, up (up (up τ' 50 0 x) 50 1 y) 50 2 z) := by
  have e0 : idv (169 * x + 13 * y + z) 169 = x := by rw [idv_nn (by omega) (by decide) (by omega)]; omega
  have e1 : irm (idv (169 * x + 13 * y + z) 13) 13 = y := by rw [idv_nn (by omega) (by decide) (by omega), irm_nn (by omega)]; omega
  have e2 : irm (169 * x + 13 * y + z) 13 = z := by rw [irm_nn (by omega)]; omega
  unfold fX12_takesCans
  rw [e0, e1, e2]
  simp only [dvc_eq (show (13 : Int) ≠ 0 by decide), dvc_eq (show (169 : Int) ≠ 0 by decide), sto_eq (show (0 : Int) ≤ 1 ∧ (1 : Int) < (3 : Nat) by decide), sto_eq (show (0 : Int) ≤ 2 ∧ (2 : Int) < (3 : Nat) by decide), sto_eq (show (0 : Int) ≤ 0 ∧ (0 : Int) < (3 : Nat) by decide)]
theorem m_poured {A B C y z f t : Int} {τ' : St} (hA : 1 ≤ A ∧ A ≤ 12) (hB : 1 ≤ B ∧ B ≤ 12) (hC : 1 ≤ C ∧ C ≤ 12) (hy : 0 ≤ y ∧ y ≤ B) (hz : 0 ≤ z ∧ z ≤ C) (hx : y + z ≤ A) (hf : 0 ≤ f ∧ f ≤ 2) (ht : 0 ≤ t ∧ t ≤ 2) (hft : f ≠ t) (h0 : τ' 51 0 = A) (h1 : τ' 51 1 = B) (h2 : τ' 51 2 = C) :
    ∃ τ3 c, Fm [50] [] τ' τ3 ∧ c = 169 * nw3 (A - y - z) y z A B C f t 0 + 13 * nw3 (A - y - z) y z A B C f t 1 + nw3 (A - y - z) y z A B C f t 2 ∧ fX12_poured (169 * (A - y - z) + 13 * y + z) f t τ' = some (c, τ3) := by
  unfold fX12_poured
  rw [m_takes (by omega) (by omega) (by omega), bnd_some]
  have l3 : ∀ {β : Type} {σ : St} {k : Nat} {i : Int} {g : Int → Rs β}, 0 ≤ i ∧ i ≤ 2 → lod σ k 3 i g = g (σ k i) := fun {β σ k i g} h => lod_eq (by omega)
  have s3 : ∀ {β : Type} {σ : St} {k : Nat} {i v : Int} {g : St → Rs β}, 0 ≤ i ∧ i ≤ 2 → sto σ k 3 i v g = g (up σ k i v) := fun {β σ k i v g} h => sto_eq (by omega)
  have c00 : (0 : Int) ≤ 0 ∧ (0 : Int) ≤ 2 := by decide
  have c01 : (0 : Int) ≤ 1 ∧ (1 : Int) ≤ 2 := by decide
  have c02 : (0 : Int) ≤ 2 ∧ (2 : Int) ≤ 2 := by decide
  rcases (show f = 0 ∨ f = 1 ∨ f = 2 by omega) with rfl | rfl | rfl <;> rcases (show t = 0 ∨ t = 1 ∨ t = 2 by omega) with rfl | rfl | rfl
  all_goals (try (exact absurd rfl hft))
  all_goals
    simp only [l3 hf, l3 ht, s3 hf, s3 ht, l3 c00, l3 c01, l3 c02, lb_eq, up_g, Nat.reduceEqDiff, Int.reduceEq, false_and, and_false, true_and, and_true, if_false, if_true, h0, h1, h2, lesser_eq, bnd_some]
    refine ⟨_, _, ?_, ?_, rfl⟩
    · exact (((((Fm.rf.up (by decide) (by decide)).up (by decide) (by decide)).up (by decide) (by decide)).up (by decide) (by decide)).up (by decide) (by decide))
    · simp only [nw3, mch, can3, Int.reduceEq, if_false, if_true]
      simp (disch := omega) only [w32_sm]
      unfold imn
      split <;> simp (disch := omega) only [w32_sm] <;> omega
theorem eC_split {A h : Int} (h0 : 0 ≤ h ∧ h < 169) : h = 13 * (h / 13) + h % 13 ∧ eC A h = 169 * (A - h / 13 - h % 13) + 13 * (h / 13) + h % 13 ∧ 0 ≤ h / 13 ∧ h / 13 ≤ 12 ∧ 0 ≤ h % 13 ∧ h % 13 ≤ 12 := by
  unfold eC
  omega
/-- the two searches: the same queue, the same numbers -/
def BRl (σ τ : St) (A B C : Int) (K : Nat) (σ' τ' : St) : Prop :=
  (Fr [157, 165, 166, 167, 168] σ σ' ∧ Fm [50, 51, 52, 53] [] τ τ') ∧ (σ' 168 0 = A ∧ σ' 168 1 = B ∧ σ' 168 2 = C ∧ τ' 51 0 = A ∧ τ' 51 1 = B ∧ τ' 51 2 = C) ∧ (σ' 157 14 = K ∧ 1 ≤ K ∧ (K : Int) + cP 169 (σ' 165) (-1) = 169) ∧
  (∀ j : Nat, j < K → vld A B C (σ' 166 j) ∧ τ' 53 j = eC A (σ' 166 j) ∧ 0 ≤ σ' 165 (σ' 166 j) ∧ σ' 165 (σ' 166 j) ≤ j) ∧ ∀ h, vld A B C h → (σ' 165 h = -1 ∧ τ' 52 (eC A h) = 100000000) ∨ (σ' 165 h = τ' 52 (eC A h) ∧ 0 ≤ σ' 165 h ∧ σ' 165 h ≤ 168)
theorem BRl.K169 {σ τ : St} {A B C : Int} {K : Nat} {σ' τ' : St} (h : BRl σ τ A B C K σ' τ') : K ≤ 169 := by
  have := (cP_bd (n := 169) (f := σ' 165) (v := -1)).1
  have := h.2.2.1.2.2
  omega
/-- cells of work that the queue doesn't look at -/
theorem BRl.work {σ τ : St} {A B C : Int} {K : Nat} {σ' τ' σ2 τ2 : St} (h : BRl σ τ A B C K σ' τ') (fx : Fr [167] σ' σ2) (fm : Fm [50] [] τ' τ2) : BRl σ τ A B C K σ2 τ2 := by
  have x165 : σ2 165 = σ' 165 := fx 165 (by decide)
  have x166 : σ2 166 = σ' 166 := fx 166 (by decide)
  have x168 : σ2 168 = σ' 168 := fx 168 (by decide)
  have x157 : σ2 157 = σ' 157 := fx 157 (by decide)
  have m51 : τ2 51 = τ' 51 := fm.1 51 (by decide) (by decide)
  have m52 : τ2 52 = τ' 52 := fm.1 52 (by decide) (by decide)
  have m53 : τ2 53 = τ' 53 := fm.1 53 (by decide) (by decide)
  unfold BRl at h ⊢
  rw [x165, x166, x168, x157, m51, m52, m53]
  exact ⟨⟨h.1.1.tr (fx.mono (by decide)), h.1.2.tr (fm.mono (by decide) (by decide))⟩, h.2⟩
theorem eC_inj {A B C h g : Int} (h1 : vld A B C h) (h2 : vld A B C g) (e : eC A h = eC A g) : h = g := by
  unfold vld at h1 h2
  unfold eC at e
  omega
theorem eC_bd {A B C h : Int} (hA : A ≤ 12) (h1 : vld A B C h) : 0 ≤ eC A h ∧ eC A h < 2197 := by
  unfold vld at h1
  unfold eC
  omega
/-- one more into the queue, or not -/
theorem enq_step {σ τ : St} {A B C c k : Int} {K : Nat} {σ' τ' : St} (hA : A ≤ 12) (hb : BRl σ τ A B C K σ' τ') (hc : vld A B C c) (hk : vld A B C k) (j : Nat) (hj : j < K) (hkj : k = σ' 166 j) :
    Ok (fX4_enqueue c (w32 (σ' 165 k + 1)) σ') fun _ s => Ok (lod τ' 52 2197 (eC A c) fun v50 =>
      if v50 < 100000000 then (
      some ((K : Int), τ'))
      else
      lod τ' 52 2197 (eC A k) fun v52 =>
      sto τ' 52 2197 (eC A c) (w32 (v52 + 1)) fun s54 =>
      sto s54 53 2197 (K : Int) (eC A c) fun s55 =>
      lb (w32 ((K : Int) + 1)) fun v56 =>
      some (v56, s55)) fun r t => ∃ K' : Nat, r = K' ∧ K ≤ K' ∧ BRl σ τ A B C K' s t ∧ ∀ q : Nat, q < K → s 166 q = σ' 166 q := by
  have k169 := hb.K169
  obtain ⟨⟨fx, fm⟩, ⟨a0, a1, a2, b0, b1, b2⟩, ⟨q1, q2, q3⟩, hq, hv⟩ := id hb
  obtain ⟨u1, u2, u3, u4⟩ := hq j hj
  rw [← hkj] at u1 u2 u3 u4
  have ec := eC_bd hA hc
  have ek := eC_bd hA hk
  have hck := hv k hk
  have ek2 : σ' 165 k = τ' 52 (eC A k) := by omega
  have hcv := hv c hc
  have c0 : 0 ≤ c ∧ c < 169 := by unfold vld at hc; omega
  have e168 : w32 (169 - 1) = 168 := by decide
  have ew : w32 (σ' 165 k + 1) = σ' 165 k + 1 := w32_sm (by omega)
  unfold fX4_enqueue
  rw [ko_bnd, within_eq, e168, if_pos (by omega), ko_some, ko_f (by decide), ko_fld, q1, ew]
  clear ew e168
  have skip : ∀ P : Int → St → Prop, (σ' 165 c = τ' 52 (eC A c) ∧ 0 ≤ σ' 165 c ∧ σ' 165 c ≤ 168) → Ok (lod τ' 52 2197 (eC A c) fun v50 =>
      if v50 < 100000000 then (
      some ((K : Int), τ'))
      else
      lod τ' 52 2197 (eC A k) fun v52 =>
      sto τ' 52 2197 (eC A c) (w32 (v52 + 1)) fun s54 =>
      sto s54 53 2197 (K : Int) (eC A c) fun s55 =>
      lb (w32 ((K : Int) + 1)) fun v56 =>
      some (v56, s55)) fun r t => ∃ K' : Nat, r = K' ∧ K ≤ K' ∧ BRl σ τ A B C K' σ' t ∧ ∀ q : Nat, q < K → σ' 166 q = σ' 166 q := by
    intro _ hh
    rw [ko_lod, ko_t (by omega), ko_some]
    exact ⟨by omega, K, rfl, Nat.le_refl _, hb, fun _ _ => rfl⟩
  by_cases full : (K : Int) < 169
  · rw [ko_t full, ko_lod]
    refine ⟨by omega, ?_⟩
    by_cases un : σ' 165 c = -1
    · rw [ko_t un, ko_sto, ko_fld, ko_sto, ko_fld, ko_put, ko_some]
      have n1 : (157 : Nat) ≠ 165 := by decide
      have n2 : (157 : Nat) ≠ 166 := by decide
      refine ⟨by omega, ?_, ?_⟩
      · rw [up_ne n1, q1]; omega
      rw [up_ne n1, q1, up_ne n2, up_ne n1, q1, w32_nat (by omega), ko_lod, ko_f (by omega), ko_lod, ko_sto, ko_sto, ko_lb, ko_some]
      refine ⟨by omega, by omega, by omega, by omega, K + 1, rfl, by omega, ?_, fun q hqq => ?_⟩
      · have w2 : w32 (τ' 52 (eC A k) + 1) = σ' 165 k + 1 := by rw [← ek2]; exact w32_sm (by omega)
        rw [w2]
        clear w2
        have ckne : ∀ q : Nat, q < K → σ' 166 q ≠ c := fun q hqq e => by
          have := (hq q hqq).2.2.1
          rw [e] at this
          omega
        refine ⟨⟨((fx.up (by decide)).up (by decide)).up (by decide), (fm.up (by decide) (by decide)).up (by decide) (by decide)⟩, ⟨a0, a1, a2, b0, b1, b2⟩, ⟨rfl, by omega, ?_⟩, fun q hq' => ?_, fun h hh => ?_⟩
        · obtain ⟨n, rfl⟩ : ∃ n : Nat, c = n := ⟨c.toNat, by omega⟩
          show ((K + 1 : Nat) : Int) + cP 169 (up σ' 165 (n : Int) (σ' 165 k + 1) 165) (-1) = 169
          rw [cP_set (h := n) un (by rw [up_at, if_pos rfl]; omega) (fun z hz => by rw [up_at, if_neg (by omega)]) (by omega)]
          omega
        · show vld A B C (up σ' 166 K c 166 q) ∧ up τ' 53 K (eC A c) 53 q = eC A (up σ' 166 K c 166 q) ∧ 0 ≤ up σ' 165 c (σ' 165 k + 1) 165 (up σ' 166 K c 166 q) ∧ up σ' 165 c (σ' 165 k + 1) 165 (up σ' 166 K c 166 q) ≤ q
          rw [up_at, up_at, up_at]
          by_cases hqK : (q : Int) = K
          · rw [if_pos hqK, if_pos hqK, if_pos rfl]
            exact ⟨hc, rfl, by omega, by omega⟩
          · obtain ⟨z1, z2, z3, z4⟩ := hq q (by omega)
            rw [if_neg hqK, if_neg hqK, if_neg (ckne q (by omega))]
            exact ⟨z1, z2, z3, z4⟩
        · show (up σ' 165 c (σ' 165 k + 1) 165 h = -1 ∧ up τ' 52 (eC A c) (σ' 165 k + 1) 52 (eC A h) = 100000000) ∨ (up σ' 165 c (σ' 165 k + 1) 165 h = up τ' 52 (eC A c) (σ' 165 k + 1) 52 (eC A h) ∧ 0 ≤ up σ' 165 c (σ' 165 k + 1) 165 h ∧ up σ' 165 c (σ' 165 k + 1) 165 h ≤ 168)
          rw [up_at, up_at]
          by_cases hhc : h = c
          · rw [hhc, if_pos rfl, if_pos rfl]
            exact Or.inr ⟨rfl, by omega, by omega⟩
          · rw [if_neg hhc, if_neg (fun e => hhc (eC_inj hh hc e))]
            exact hv h hh
      · show up σ' 166 K c 166 q = σ' 166 q
        rw [up_at, if_neg (by omega)]
    · rw [ko_f un, ko_some]
      exact skip (fun _ _ => True) (by omega)
  · rw [ko_f full, ko_some]
    refine skip (fun _ _ => True) ?_
    have : σ' 165 c ≠ -1 := by
      intro un
      obtain ⟨n, rfl⟩ : ∃ n : Nat, c = n := ⟨c.toNat, by omega⟩
      have := cP_hit (n := 169) (h := n) (f := σ' 165) (by omega) un
      omega
    omega
theorem itr_one {β γ : Type} {body : β → St → Rs (β ⊕ γ)} {N : Nat} {x : β} {σ : St} {P : γ → St → Prop} (o : Ok (body x σ) (Jx (fun x' σ' => Ok (itr N body x' σ') P) P)) : Ok (itr (N + 1) body x σ) P := by
  obtain ⟨r, σ', e, h⟩ := o
  unfold itr
  rw [e]
  cases r with
  | inl x' => exact h
  | inr y => exact ⟨y, σ', rfl, h⟩
/-- a loop to its end on the left, the same many rounds on the right -/
theorem ok2_part {β γ δ β2 γ2 : Type} {b1 : β → St → Rs (β ⊕ γ)} {k1 : γ → St → Rs δ} {b2 : β2 → St → Rs (β2 ⊕ γ2)} {P : δ → St → γ2 → St → Prop} (n : Nat) (I : Nat → β → St → β2 → St → Prop)
    (hs : ∀ i x σ y τ, i < n → I i x σ y τ → Ok (b1 x σ) (Jx (fun x' σ' => Ok (b2 y τ) (Jx (fun y' τ' => I (i + 1) x' σ' y' τ') fun _ _ => False)) fun _ _ => False)) :
    ∀ (d i N M : Nat) (x : β) (σ : St) (y : β2) (τ : St), i + d = n → I i x σ y τ → (∀ x σ y τ, I n x σ y τ → Ok (b1 x σ) (Jx (fun _ _ => False) fun r σ' => Ok2 (k1 r σ') (itr M b2 y τ) P)) → Ok2 (bnd (itr (N + d + 1) b1 x σ) k1) (itr (M + d) b2 y τ) P := by
  intro d
  induction d with
  | zero =>
    intro i N M x σ y τ hi hI he
    have hi : i = n := by omega
    subst hi
    obtain ⟨r, σ', e, h⟩ := he x σ y τ hI
    cases r with
    | inl x' => exact False.elim h
    | inr q =>
      have el : itr (N + 0 + 1) b1 x σ = some (q, σ') := by
        show (match b1 x σ with | none => none | some (.inl x', σ') => itr N b1 x' σ' | some (.inr y, σ') => some (y, σ')) = _
        rw [e]
      rw [el, bnd_some]
      exact h
  | succ d ih =>
    intro i N M x σ y τ hi hI he
    obtain ⟨r, σ', e, h⟩ := hs i x σ y τ (by omega) hI
    cases r with
    | inr q => exact False.elim h
    | inl x' =>
      obtain ⟨r2, τ', e2, h2⟩ := h
      cases r2 with
      | inr q => exact False.elim h2
      | inl y' =>
        have el : itr (N + (d + 1) + 1) b1 x σ = itr (N + d + 1) b1 x' σ' := by
          show (match b1 x σ with | none => none | some (.inl x', σ') => itr (N + d + 1) b1 x' σ' | some (.inr y, σ') => some (y, σ')) = _
          rw [e]
        have er : itr (M + (d + 1)) b2 y τ = itr (M + d) b2 y' τ' := by
          show (match b2 y τ with | none => none | some (.inl x', σ') => itr (M + d) b2 x' σ' | some (.inr y, σ') => some (y, σ')) = _
          rw [e2]
        rw [el, er]
        exact ih (i + 1) N M x' σ' y' τ' (by omega) h2 he
