/-! IMAGE: each piece of the relation goes over -/
def VC (V V' : St) : Prop := ∀ c i, ImC c i → V' c i = V c i
theorem chk_cong {op ar op' ar' : Int → Int} : ∀ {n : Nat} {i : Int} {S : List Nat}, (∀ j, i ≤ j → j < i + n → op j = op' j ∧ ar j = ar' j) → chk op ar n i S = chk op' ar' n i S := by
  intro n
  induction n with
  | zero => intro i S _; rfl
  | succ n ih =>
    intro i S h
    have e := h i (Int.le_refl i) (by omega)
    rw [chk, chk, e.1, e.2]
    cases stp (op' i) (ar' i) S with
    | none => rfl
    | some S' => exact ih fun j j0 j1 => h j (by omega) (by omega)
theorem fm_cong {C C' : Int → Int} {a b : Int} : ∀ {n : Nat}, (∀ j : Int, 0 ≤ j → j < (n : Int) * 4 → C j = C' j) → fm n C a b = fm n C' a b := by
  intro n
  induction n with
  | zero => intro _; rfl
  | succ n ih =>
    intro h
    rw [fm, fm, h _ (by omega) (by omega), h ((n : Int) * 4 + 1) (by omega) (by omega), h ((n : Int) * 4 + 2) (by omega) (by omega), ih fun j j0 j1 => h j j0 (by omega)]
theorem RH.cv {σ σ' V V' : St} {h h2 : Nat} (h0 : RH σ h2 V) (c : HC σ σ' h h2) (v : VC V V') : RH σ' h V' := by
  have h1 := h0.copy c
  obtain ⟨⟨a1, a2, a3, a4, a5, a6⟩, ⟨b1, b2, b3, b4, b5, b6⟩, hp, hq⟩ := h1
  have m1 : ∀ i, 0 ≤ i → i < 161 → V' 1 i = V 1 i := fun i i0 i1 => v 1 i (show 0 ≤ i ∧ i < 161 from ⟨i0, i1⟩)
  have j6 := v 0 6 (im0 (by decide))
  have j7 := v 0 7 (im0 (by decide))
  refine ⟨⟨a1.trans (m1 2 (by decide) (by decide)).symm, a2.trans (m1 1 (by decide) (by decide)).symm, a3.trans (m1 0 (by decide) (by decide)).symm, a4.trans (m1 4 (by decide) (by decide)).symm, a5.trans j6.symm, a6.trans j7.symm⟩, by rw [j6, j7, m1 1 (by decide) (by decide)]; exact ⟨b1, b2, b3, b4, b5, b6⟩, fun i i0 i1 => ?_, fun i i0 i1 => ?_⟩
  · rw [j6] at i1
    exact (hp i i0 i1).cg rfl rfl rfl rfl rfl (v 4 i (show 0 ≤ i ∧ i < 12 by omega)) (m1 _ (by omega) (by omega)) (m1 _ (by omega) (by omega)) (m1 _ (by omega) (by omega)) (by rw [j7]; exact cP_cong fun k hk => m1 _ (by omega) (by omega)) (Int.le_of_eq j7.symm)
  · rw [j7] at i1
    exact (hq i i0 i1).cg rfl rfl rfl rfl rfl rfl rfl rfl (v 5 i (show 0 ≤ i ∧ i < 20 by omega)) (v 6 i (show 0 ≤ i ∧ i < 20 by omega)) (m1 _ (by omega) (by omega)) (m1 _ (by omega) (by omega)) (m1 _ (by omega) (by omega)) (m1 _ (by omega) (by omega)) (m1 _ (by omega) (by omega)) (m1 _ (by omega) (by omega)) (Int.le_of_eq j6.symm)
theorem RLaw.cv {σ σ' V V' : St} {T T2 : Nat} (h : RLaw σ T2 V) (c : TCr σ σ' (T + 1) (T2 + 1)) (d : TCr σ σ' (T + 3) (T2 + 3)) (v : VC V V') : RLaw σ' T V' := by
  obtain ⟨⟨h0, h1, h2, h3, h4, h5, h6⟩, hl, hc⟩ := h
  obtain ⟨c0, c1, c2⟩ := c
  obtain ⟨d0, d1, d2⟩ := d
  rw [h0, h2] at c2
  rw [h1, Int.mul_one] at d2
  have c2 : ∀ i, 0 ≤ i → i < V 10 0 * 4 → σ' (T + 2) i = σ (T2 + 2) i := c2
  have d2 : ∀ i, 0 ≤ i → i < σ (T2 + 3) 2 → σ' (T + 4) i = σ (T2 + 4) i := d2
  have e := v 10 0 (show (0 : Int) = 0 from rfl)
  have v15 : ∀ i, 0 ≤ i → i < 400 → V' 15 i = V 15 i := fun i i0 i1 => v 15 i (show 0 ≤ i ∧ i < 400 from ⟨i0, i1⟩)
  have v16 : ∀ i, 0 ≤ i → i < 400 → V' 16 i = V 16 i := fun i i0 i1 => v 16 i (show 0 ≤ i ∧ i < 400 from ⟨i0, i1⟩)
  refine ⟨⟨c0.trans h0, d0.trans h1, by rw [e]; exact c1.trans h2, by rw [e]; exact h3, by rw [e]; exact h4, by rw [d1]; exact h5, by rw [d1]; exact h6⟩, fun l l0 l1 => ?_, fun i i0 i1 => ?_⟩
  · rw [e] at l1
    obtain ⟨⟨k1, k2, k3, k4⟩, ⟨g1, g2, g3, g4, g5, g6⟩, ⟨x, x1, x2⟩, k5⟩ := hl l l0 l1
    have r : 0 ≤ l ∧ l < 16 := by omega
    rw [v 11 l (show 0 ≤ l ∧ l < 16 from r), v 12 l (show 0 ≤ l ∧ l < 16 from r), v 13 l (show 0 ≤ l ∧ l < 16 from r), v 14 l (show 0 ≤ l ∧ l < 16 from r), c2 _ (by omega) (by omega), c2 _ (by omega) (by omega), c2 _ (by omega) (by omega), c2 _ (by omega) (by omega), d1]
    refine ⟨⟨k1, k2, k3, k4⟩, ⟨g1, g2, g3, g4, g5, g6⟩, ⟨x, x1, ?_⟩, fun hlt => ?_⟩
    · rw [← x2]
      exact chk_cong fun j j0 j1 => ⟨v15 j (by omega) (by omega), v16 j (by omega) (by omega)⟩
    · rw [← k5 hlt]
      exact chk_cong fun j j0 j1 => ⟨v15 j (by omega) (by omega), v16 j (by omega) (by omega)⟩
  · rw [d1] at i1
    rw [d2 i i0 i1, v15 i i0 (by omega), v16 i i0 (by omega)]
    exact hc i i0 i1
theorem RCalls.cv {σ σ' V V' : St} {T T2 : Nat} (h : RCalls σ T2 V) (c : TCr σ σ' (T + 5) (T2 + 5)) (v : VC V V') : RCalls σ' T V' := by
  obtain ⟨⟨h0, h1, h2, h3⟩, h4, h5⟩ := h
  obtain ⟨c0, c1, c2⟩ := c
  rw [h0, h1] at c2
  have c2 : ∀ i, 0 ≤ i → i < V 0 35 * 4 → σ' (T + 6) i = σ (T2 + 6) i := c2
  have e := v 0 35 (im0 (by decide))
  have e6 := v 0 6 (im0 (by decide))
  have e7 := v 0 7 (im0 (by decide))
  refine ⟨⟨c0.trans h0, by rw [e]; exact c1.trans h1, by rw [e]; exact h2, by rw [e]; exact h3⟩, fun j j0 j1 => ?_, fun k k0 k1 => ?_⟩
  · rw [e] at j1
    rw [c2 j j0 j1, v 18 j (show 0 ≤ j ∧ j < 64 by omega)]
    exact h4 j j0 j1
  · rw [e] at k1
    rw [v 18 (k * 4) (show 0 ≤ k * 4 ∧ k * 4 < 64 by omega), v 18 (k * 4 + 2) (show 0 ≤ k * 4 + 2 ∧ k * 4 + 2 < 64 by omega), e6, e7]
    exact h5 k k0 k1
theorem REven.cv {σ σ' V V' : St} {T T2 : Nat} (h : REven σ T2 V) (c : TCr σ σ' (T + 7) (T2 + 7)) (v : VC V V') : REven σ' T V' := by
  obtain ⟨⟨h0, h1, h2, h3⟩, h4⟩ := h
  obtain ⟨c0, c1, c2⟩ := c
  rw [h0, h1] at c2
  have c2 : ∀ i, 0 ≤ i → i < V 0 37 * 4 → σ' (T + 8) i = σ (T2 + 8) i := c2
  have e := v 0 37 (im0 (by decide))
  have e6 := v 0 6 (im0 (by decide))
  have e7 := v 0 7 (im0 (by decide))
  refine ⟨⟨c0.trans h0, by rw [e]; exact c1.trans h1, by rw [e]; exact h2, by rw [e]; exact h3⟩, fun k k0 k1 => ?_⟩
  rw [e] at k1
  rw [v 19 (k * 4) (show 0 ≤ k * 4 ∧ k * 4 < 64 by omega), v 19 (k * 4 + 1) (show 0 ≤ k * 4 + 1 ∧ k * 4 + 1 < 64 by omega), v 19 (k * 4 + 2) (show 0 ≤ k * 4 + 2 ∧ k * 4 + 2 < 64 by omega), v 19 (k * 4 + 3) (show 0 ≤ k * 4 + 3 ∧ k * 4 + 3 < 64 by omega), e6, e7, c2 _ (by omega) (by omega), c2 _ (by omega) (by omega), c2 _ (by omega) (by omega), c2 _ (by omega) (by omega)]
  exact h4 k k0 k1
theorem RStreet.cv {σ σ' V V' : St} {T T2 : Nat} (h : RStreet σ T2 V) (c : TCr σ σ' (T + 9) (T2 + 9)) (v : VC V V') : RStreet σ' T V' := by
  obtain ⟨⟨h0, h1, h2, h3⟩, h4, h5⟩ := h
  obtain ⟨c0, c1, c2⟩ := c
  rw [h0, h1] at c2
  have c2 : ∀ i, 0 ≤ i → i < V 0 39 * 4 → σ' (T + 10) i = σ (T2 + 10) i := c2
  have e := v 0 39 (im0 (by decide))
  have e6 := v 0 6 (im0 (by decide))
  refine ⟨⟨c0.trans h0, by rw [e]; exact c1.trans h1, by rw [e]; exact h2, by rw [e]; exact h3⟩, fun k k0 k1 => ?_, fun a b a0 a1 b0 b1 => ?_⟩
  · rw [e] at k1
    rw [e6, c2 _ (by omega) (by omega), c2 _ (by omega) (by omega), c2 _ (by omega) (by omega)]
    exact h4 k k0 k1
  · rw [v 20 (12 * a + b) (show 0 ≤ 12 * a + b ∧ 12 * a + b < 144 by omega), e, h5 a b a0 a1 b0 b1]
    exact fm_cong fun j j0 j1 => (c2 j j0 (by omega)).symm
theorem RWish.cv {σ σ' V V' : St} {T T2 : Nat} (h : RWish σ T2 V) (c : TCr σ σ' (T + 11) (T2 + 11)) (v : VC V V') : RWish σ' T V' := by
  obtain ⟨h0, h1, h4⟩ := h
  obtain ⟨c0, c1, c2⟩ := c
  rw [h0, h1] at c2
  have c2 : ∀ i, 0 ≤ i → i < 10 * 5 → σ' (T + 12) i = σ (T2 + 12) i := c2
  refine ⟨c0.trans h0, c1.trans h1, fun w w0 w1 => ?_⟩
  rw [v 23 w (show 0 ≤ w ∧ w < 10 by omega), c2 (w * 5) (by omega) (by omega), c2 (w * 5 + 1) (by omega) (by omega), c2 (w * 5 + 2) (by omega) (by omega), c2 (w * 5 + 3) (by omega) (by omega), c2 (w * 5 + 4) (by omega) (by omega)]
  exact h4 w w0 w1
theorem RChair.cv {σ σ' V V' : St} {T T2 : Nat} (h : RChair σ T2 V) (c : TCr σ σ' (T + 13) (T2 + 13)) (v : VC V V') : RChair σ' T V' := by
  obtain ⟨⟨h0, h1, h2, h3⟩, h4⟩ := h
  obtain ⟨c0, c1, c2⟩ := c
  rw [h0, h1] at c2
  have c2 : ∀ i, 0 ≤ i → i < V 0 49 * 2 → σ' (T + 14) i = σ (T2 + 14) i := c2
  have e := v 0 49 (im0 (by decide))
  refine ⟨⟨c0.trans h0, by rw [e]; exact c1.trans h1, by rw [e]; exact h2, by rw [e]; exact h3⟩, fun i i0 i1 => ?_⟩
  rw [e] at i1
  rw [v 29 i (show 0 ≤ i ∧ i < 5 by omega), v 30 i (show 0 ≤ i ∧ i < 5 by omega), c2 _ (by omega) (by omega), c2 _ (by omega) (by omega)]
  exact h4 i i0 i1
theorem RCat.cv {σ σ' V V' : St} {T T2 : Nat} (h : RCat σ T2 V) (c : TCr σ σ' (T + 15) (T2 + 15)) (v : VC V V') : RCat σ' T V' := by
  obtain ⟨⟨h0, h1, h2, h3⟩, h4⟩ := h
  obtain ⟨c0, c1, c2⟩ := c
  rw [h0, h1] at c2
  have c2 : ∀ i, 0 ≤ i → i < V 0 52 * 4 → σ' (T + 16) i = σ (T2 + 16) i := c2
  have e := v 0 52 (im0 (by decide))
  refine ⟨⟨c0.trans h0, by rw [e]; exact c1.trans h1, by rw [e]; exact h2, by rw [e]; exact h3⟩, fun i i0 i1 => ?_⟩
  rw [e] at i1
  rw [v 31 i (show 0 ≤ i ∧ i < 12 by omega), v 32 i (show 0 ≤ i ∧ i < 12 by omega), v 33 i (show 0 ≤ i ∧ i < 12 by omega), v 34 i (show 0 ≤ i ∧ i < 12 by omega), c2 _ (by omega) (by omega), c2 _ (by omega) (by omega), c2 _ (by omega) (by omega), c2 _ (by omega) (by omega)]
  exact h4 i i0 i1
theorem RFam.cv {σ σ' V V' : St} {T T2 : Nat} (h : RFam σ T2 V) (c : TCr σ σ' (T + 17) (T2 + 17)) (v : VC V V') : RFam σ' T V' := by
  obtain ⟨⟨h0, h1, h2, h3⟩, h4⟩ := h
  obtain ⟨c0, c1, c2⟩ := c
  rw [h0, h1, Int.mul_one] at c2
  have c2 : ∀ i, 0 ≤ i → i < V 0 58 → σ' (T + 18) i = σ (T2 + 18) i := c2
  have e := v 0 58 (im0 (by decide))
  refine ⟨⟨c0.trans h0, by rw [e]; exact c1.trans h1, by rw [e]; exact h2, by rw [e]; exact h3⟩, fun i i0 i1 => ?_⟩
  rw [e] at i1
  rw [v 36 i (show 0 ≤ i ∧ i < 8 by omega), c2 i i0 i1]
  exact h4 i i0 i1
theorem RBoard.cv {σ σ' V V' : St} {T T2 : Nat} (h : RBoard σ T2 V) (c : TCr σ σ' (T + 19) (T2 + 19)) (v : VC V V') : RBoard σ' T V' := by
  obtain ⟨⟨h0, h1, h2, h3⟩, h4⟩ := h
  obtain ⟨c0, c1, c2⟩ := c
  rw [h0, h1, Int.mul_one] at c2
  have c2 : ∀ i, 0 ≤ i → i < V 0 62 → σ' (T + 20) i = σ (T2 + 20) i := c2
  have e := v 0 62 (im0 (by decide))
  refine ⟨⟨c0.trans h0, by rw [e]; exact c1.trans h1, by rw [e]; exact h2, by rw [e]; exact h3⟩, fun i i0 i1 => ?_⟩
  rw [e] at i1
  rw [v 39 i (show 0 ≤ i ∧ i < 12 by omega), c2 i i0 i1]
  exact h4 i i0 i1
theorem RTalk.cv {σ σ' V V' : St} {T T2 : Nat} (h : RTalk σ T2 V) (c : TCr σ σ' (T + 21) (T2 + 21)) (v : VC V V') : RTalk σ' T V' := by
  obtain ⟨⟨h0, h1, h2, h3⟩, h4⟩ := h
  obtain ⟨c0, c1, c2⟩ := c
  rw [h0, h1, Int.mul_one] at c2
  have c2 : ∀ i, 0 ≤ i → i < V 0 64 → σ' (T + 22) i = σ (T2 + 22) i := c2
  have e := v 0 64 (im0 (by decide))
  refine ⟨⟨c0.trans h0, by rw [e]; exact c1.trans h1, by rw [e]; exact h2, by rw [e]; exact h3⟩, fun i i0 i1 => ?_⟩
  rw [e] at i1
  rw [v 40 i (show 0 ≤ i ∧ i < 24 by omega), c2 i i0 i1]
  exact h4 i i0 i1
theorem RSwing.cv {σ σ' V V' : St} {T T2 : Nat} (h : RSwing σ T2 V) (c : TCr σ σ' (T + 29) (T2 + 29)) (v : VC V V') : RSwing σ' T V' := by
  obtain ⟨⟨h0, h1, h2, h3⟩, h4⟩ := h
  obtain ⟨c0, c1, c2⟩ := c
  rw [h0, h1, Int.mul_one] at c2
  have c2 : ∀ i, 0 ≤ i → i < V 0 70 → σ' (T + 30) i = σ (T2 + 30) i := c2
  have e := v 0 70 (im0 (by decide))
  refine ⟨⟨c0.trans h0, by rw [e]; exact c1.trans h1, by rw [e]; exact h2, by rw [e]; exact h3⟩, fun i i0 i1 => ?_⟩
  rw [e] at i1
  rw [v 45 i (show 0 ≤ i ∧ i < 8 by omega), c2 i i0 i1]
  exact h4 i i0 i1
theorem RHalf.cv {σ σ' V V' : St} {T T2 : Nat} (h : RHalf σ T2 V) (c : TCr σ σ' (T + 23) (T2 + 23)) (d : TCr σ σ' (T + 25) (T2 + 25)) (g : TCr σ σ' (T + 27) (T2 + 27)) (v : VC V V') : RHalf σ' T V' := by
  obtain ⟨⟨h0, h1, h2, h3, h4⟩, ⟨k0, k1, k2, k3, k4⟩, ⟨l0, l1, l2, l3, l4⟩⟩ := h
  obtain ⟨c0, c1, c2⟩ := c
  obtain ⟨d0, d1, d2⟩ := d
  obtain ⟨g0, g1, g2⟩ := g
  rw [h0, h1, Int.mul_one] at c2
  rw [k0, k1, Int.mul_one] at d2
  rw [l0, l1, Int.mul_one] at g2
  have c2 : ∀ i, 0 ≤ i → i < V 42 0 → σ' (T + 24) i = σ (T2 + 24) i := c2
  have d2 : ∀ i, 0 ≤ i → i < V 42 1 → σ' (T + 26) i = σ (T2 + 26) i := d2
  have g2 : ∀ i, 0 ≤ i → i < V 42 2 → σ' (T + 28) i = σ (T2 + 28) i := g2
  have e0 := v 42 0 (show (0 : Int) ≤ 0 ∧ (0 : Int) < 3 by decide)
  have e1 := v 42 1 (show (0 : Int) ≤ 1 ∧ (1 : Int) < 3 by decide)
  have e2 := v 42 2 (show (0 : Int) ≤ 2 ∧ (2 : Int) < 3 by decide)
  refine ⟨⟨c0.trans h0, by rw [e0]; exact c1.trans h1, by rw [e0]; exact h2, by rw [e0]; exact h3, fun i i0 i1 => ?_⟩, ⟨d0.trans k0, by rw [e1]; exact d1.trans k1, by rw [e1]; exact k2, by rw [e1]; exact k3, fun i i0 i1 => ?_⟩, ⟨g0.trans l0, by rw [e2]; exact g1.trans l1, by rw [e2]; exact l2, by rw [e2]; exact l3, fun i i0 i1 => ?_⟩⟩
  · rw [e0] at i1
    rw [v 43 i (show 0 ≤ i ∧ i < 72 by omega), c2 i i0 i1]
    exact h4 i i0 i1
  · rw [e1] at i1
    rw [v 43 (24 + i) (show 0 ≤ 24 + i ∧ 24 + i < 72 by omega), d2 i i0 i1]
    exact k4 i i0 i1
  · rw [e2] at i1
    rw [v 43 (48 + i) (show 0 ≤ 48 + i ∧ 48 + i < 72 by omega), g2 i i0 i1]
    exact l4 i i0 i1
theorem RQuar.cv {σ σ' V V' : St} {T T2 : Nat} (h : RQuar σ T2 V) (c : TCr σ σ' (T + 31) (T2 + 31)) (v : VC V V') : RQuar σ' T V' := by
  obtain ⟨⟨h0, h1, h2, h3⟩, h4, h5⟩ := h
  obtain ⟨c0, c1, c2⟩ := c
  rw [h0, h1] at c2
  have c2 : ∀ i, 0 ≤ i → i < V 0 72 * 2 → σ' (T + 32) i = σ (T2 + 32) i := c2
  have e := v 0 72 (im0 (by decide))
  refine ⟨⟨c0.trans h0, by rw [e]; exact c1.trans h1, by rw [e]; exact h2, by rw [e]; exact h3⟩, fun i i0 i1 => ?_, fun a b a0 a1 b0 b1 => ?_⟩
  · rw [e] at i1
    rw [c2 _ (by omega) (by omega), c2 _ (by omega) (by omega)]
    exact h4 i i0 i1
  · obtain ⟨q1, q2, q3⟩ := h5 a b a0 a1 b0 b1
    rw [v 46 a (show 0 ≤ a ∧ a < 8 by omega), e]
    refine ⟨q1, q2, q3.trans ?_⟩
    unfold hasq
    constructor
    · rintro ⟨i, i0, i1, hi⟩
      exact ⟨i, i0, i1, by rw [c2 _ (by omega) (by omega), c2 _ (by omega) (by omega)]; exact hi⟩
    · rintro ⟨i, i0, i1, hi⟩
      rw [c2 _ (by omega) (by omega), c2 _ (by omega) (by omega)] at hi
      exact ⟨i, i0, i1, hi⟩
theorem RB.cv {σ σ' V V' : St} {d d2 : Nat} (h : RB σ d2 V) (c : TCr σ σ' d d2) (v : VC V V') : RB σ' d V' := by
  obtain ⟨⟨h0, h1, h2, h3⟩, h4⟩ := h
  obtain ⟨c0, c1, c2⟩ := c
  rw [h0, h1] at c2
  have e := v 1 3 (show (0 : Int) ≤ 3 ∧ (3 : Int) < 161 by decide)
  refine ⟨⟨c0.trans h0, by rw [e]; exact c1.trans h1, by rw [e]; exact h2, by rw [e]; exact h3⟩, fun j j0 j1 => ?_⟩
  rw [e] at j1
  rw [c2 j j0 j1, v 7 j (show 0 ≤ j ∧ j < 750 by omega)]
  exact h4 j j0 j1
