/-! a minute: what it may change -/
def wA : List Nat := [3, 5, 6, 7, 8, 11, 12, 13, 14, 15, 16, 50, 51, 150, 151]
def MQm (t : Int) (σ τ : St) : Prop := RH σ 3 τ ∧ RLaw σ 17 τ ∧ RCalls σ 17 τ ∧ REven σ 17 τ ∧ RStreet σ 17 τ ∧ RB σ 50 τ ∧ σ 152 4 = t ∧ τ 0 5 = t ∧ (t = 0 ∨ t = 1)
def Mv (t : Int) (σ τ σ' τ' : St) : Prop := MQm t σ' τ' ∧ Fr wA σ σ' ∧ Fm [1, 7, 21, 22] [] τ τ' ∧ τ 1 3 ≤ τ' 1 3 ∧ (t = 1 → σ' 50 = σ 50 ∧ σ' 51 = σ 51 ∧ τ' 7 = τ 7)
theorem Mv.rf {t : Int} {σ τ : St} (h : MQm t σ τ) : Mv t σ τ σ τ := ⟨h, Fr.rf, Fm.rf, Int.le_refl _, fun _ => ⟨rfl, rfl, rfl⟩⟩
theorem Mv.tr {t : Int} {σ τ σ1 τ1 σ2 τ2 : St} (h : Mv t σ τ σ1 τ1) (g : Mv t σ1 τ1 σ2 τ2) : Mv t σ τ σ2 τ2 :=
  ⟨g.1, h.2.1.tr g.2.1, h.2.2.1.tr g.2.2.1, Int.le_trans h.2.2.2.1 g.2.2.2.1, fun e => ⟨(g.2.2.2.2 e).1.trans (h.2.2.2.2 e).1, (g.2.2.2.2 e).2.1.trans (h.2.2.2.2 e).2.1, (g.2.2.2.2 e).2.2.trans (h.2.2.2.2 e).2.2⟩⟩
theorem MQm.go {t : Int} {σ τ σ' τ' : St} (h : MQm t σ τ) (fx : Fr wA σ σ') (fm : Fm [1, 7, 21, 22] [] τ τ') (hR : RH σ' 3 τ') (hB : RB σ' 50 τ') : MQm t σ' τ' := by
  obtain ⟨_, a, b, c, d, _, e, f, g⟩ := h
  exact ⟨hR, a.cg fx fm (by decide), b.cg fx fm (by decide), c.cg fx fm (by decide), d.cg fx fm (by decide), hB, by rw [fx 152 (by decide)]; exact e, by rw [fm.2 5 (by decide)]; exact f, g⟩
theorem Mv.nb {t : Int} {σ τ σ' τ' : St} (h : MQm t σ τ) (fx : Fr [3, 5, 6, 7, 8, 11, 12, 13, 14, 15, 16, 150, 151] σ σ') (fm : Fm [1, 21, 22] [] τ τ') (e3 : τ' 1 3 = τ 1 3) (hR : RH σ' 3 τ') : Mv t σ τ σ' τ' := by
  have fx' : Fr wA σ σ' := fx.mono (by decide)
  have fm' : Fm [1, 7, 21, 22] [] τ τ' := fm.mono (by decide) (by decide)
  have x50 := fx 50 (by decide)
  have x51 := fx 51 (by decide)
  have m7 := fm.1 7 (by decide) (by decide)
  exact ⟨h.go fx' fm' hR (h.2.2.2.2.2.1.cg1 x50 x51 e3 m7), fx', fm', Int.le_of_eq e3.symm, fun _ => ⟨x50, x51, m7⟩⟩
theorem Mv.wk {t : Int} {σ τ σ' τ' : St} (h : MQm t σ τ) (fx : Fr [150, 151] σ σ') (fm : Fm [21, 22] [] τ τ') : Mv t σ τ σ' τ' :=
  Mv.nb h (fx.mono (by decide)) (fm.mono (by decide) (by decide)) (by rw [fm.1 1 (by decide) (by decide)]) (h.1.cg fx fm (by decide))
theorem up_self {σ : St} {k : Nat} {i v : Int} (h : σ k i = v) : up σ k i v = σ := by
  funext k' i'
  rw [up_g]
  by_cases c : k' = k ∧ i' = i
  · rw [if_pos c, c.1, c.2, h]
  · rw [if_neg c]
theorem cP_up {f g : Int → Int} {v : Int} {p : Nat} : ∀ {n : Nat}, p < n → (∀ k : Nat, k < n → k ≠ p → g k = f k) → cP n g v + (if f p = v then 1 else 0) = cP n f v + (if g p = v then 1 else 0) := by
  intro n
  induction n with
  | zero => intro h; omega
  | succ n ih =>
    intro h hk
    rw [cP, cP]
    by_cases e : p = n
    · subst e
      rw [cP_cong fun k hk' => hk k (by omega) (by omega)]
      generalize (if f (p : Int) = v then (1 : Int) else 0) = a
      generalize (if g (p : Int) = v then (1 : Int) else 0) = b
      omega
    · rw [hk n (by omega) (fun q => e q.symm)]
      have := ih (by omega) fun k h1 h2 => hk k (by omega) h2
      generalize (if f (p : Int) = v then (1 : Int) else 0) = a at *
      generalize (if g (p : Int) = v then (1 : Int) else 0) = b at *
      generalize (if f (n : Int) = v then (1 : Int) else 0) = c at *
      omega
theorem RH.eq3 {σ σ' τ τ' : St} (h : RH σ 3 τ) (fx : Fr [50, 51] σ σ') (fm : Fm [1, 7] [] τ τ') (m1 : ∀ i, i ≠ 3 → τ' 1 i = τ 1 i) : RH σ' 3 τ' := by
  have h' : RH σ' 3 τ := h.cg fx (Fm.rf (C := []) (J := [])) (by decide)
  clear h
  obtain ⟨⟨a1, a2, a3, a4, a5, a6⟩, ⟨b1, b2, b3, b4, b5, b6⟩, hp, hq⟩ := h'
  have e4 := fm.1 4 (by decide) (by decide)
  have e5 := fm.1 5 (by decide) (by decide)
  have e6 := fm.1 6 (by decide) (by decide)
  have j6 := fm.2 6 (by decide)
  have j7 := fm.2 7 (by decide)
  refine ⟨⟨a1.trans (m1 2 (by decide)).symm, a2.trans (m1 1 (by decide)).symm, a3.trans (m1 0 (by decide)).symm, a4.trans (m1 4 (by decide)).symm, a5.trans j6.symm, a6.trans j7.symm⟩, by rw [j6, j7, m1 1 (by decide)]; exact ⟨b1, b2, b3, b4, b5, b6⟩, fun i i0 i1 => ?_, fun i i0 i1 => ?_⟩
  · rw [j6] at i1
    exact (hp i i0 i1).cg rfl rfl rfl rfl rfl (congrFun e4 i) (m1 _ (by omega)) (m1 _ (by omega)) (m1 _ (by omega)) (by rw [j7]; exact cP_cong fun k hk => m1 _ (by omega)) (Int.le_of_eq j7.symm)
  · rw [j7] at i1
    exact (hq i i0 i1).cg rfl rfl rfl rfl rfl rfl rfl rfl (congrFun e5 i) (congrFun e6 i) (m1 _ (by omega)) (m1 _ (by omega)) (m1 _ (by omega)) (m1 _ (by omega)) (m1 _ (by omega)) (m1 _ (by omega)) (Int.le_of_eq j6.symm)
/-- somebody gets up -/
theorem RH.rise {σ τ : St} (h : RH σ 3 τ) {p q : Int} (p0 : 0 ≤ p) (p1 : p < τ 0 7) (q0 : 0 ≤ q) (hs : τ 1 (41 + p) = q + 1) : RH (up (up (up (up σ 8 q (σ 8 q - 1)) 11 p (-1)) 12 p 0) 13 p 0) 3 (up (up (up τ 1 (41 + p) 0) 1 (61 + p) 0) 1 (81 + p) 0) := by
  obtain ⟨⟨a1, a2, a3, a4, a5, a6⟩, ⟨b1, b2, b3, b4, b5, b6⟩, hp, hq⟩ := h
  obtain ⟨P, rfl⟩ : ∃ P : Nat, p = P := ⟨p.toNat, by omega⟩
  refine ⟨⟨a1.trans (by first | rfl | (symm; simp only [up_g]; (repeat (rw [if_neg (by omega)])))), a2.trans (by first | rfl | (symm; simp only [up_g]; (repeat (rw [if_neg (by omega)])))), a3.trans (by first | rfl | (symm; simp only [up_g]; (repeat (rw [if_neg (by omega)])))), a4.trans (by first | rfl | (symm; simp only [up_g]; (repeat (rw [if_neg (by omega)])))), a5, a6⟩, ⟨b1, b2, b3, b4, (by (simp only [up_g, Nat.reduceAdd, true_and, and_true, false_and, and_false, Nat.reduceEqDiff, if_false, if_true]) <;> (repeat (first | rw [if_neg (by omega)] | rw [if_pos (by omega)])) <;> (first | assumption | omega)), (by (simp only [up_g, Nat.reduceAdd, true_and, and_true, false_and, and_false, Nat.reduceEqDiff, if_false, if_true]) <;> (repeat (first | rw [if_neg (by omega)] | rw [if_pos (by omega)])) <;> (first | assumption | omega))⟩, fun i i0 i1 => ?_, fun i i0 i1 => ?_⟩
  · have i1 : i < τ 0 6 := i1
    obtain ⟨k1, k2, k3, k4, k5, k6, k7, k8, k9⟩ := hp i i0 i1
    simp only [Nat.reduceAdd] at k1 k2 k3 k4 k5
    have key := cP_up (f := fun j => τ 1 (41 + j)) (g := fun j => up (up (up τ 1 (41 + (P : Int)) 0) 1 (61 + (P : Int)) 0) 1 (81 + (P : Int)) 0 1 (41 + j)) (v := i + 1) (p := P) (n := (τ 0 7).toNat) (by omega) (fun k hk hne => (by (simp only [up_g, Nat.reduceAdd, true_and, and_true, false_and, and_false, Nat.reduceEqDiff, if_false, if_true]) <;> (repeat (first | rw [if_neg (by omega)] | rw [if_pos (by omega)])) <;> (first | assumption | omega)))
    have gp : up (up (up τ 1 (41 + (P : Int)) 0) 1 (61 + (P : Int)) 0) 1 (81 + (P : Int)) 0 1 (41 + (P : Int)) = 0 := (by (simp only [up_g, Nat.reduceAdd, true_and, and_true, false_and, and_false, Nat.reduceEqDiff, if_false, if_true]) <;> (repeat (first | rw [if_neg (by omega)] | rw [if_pos (by omega)])) <;> (first | assumption | omega))
    simp only [gp, hs] at key
    refine ⟨k1, k2.trans (by first | rfl | (symm; simp only [up_g]; (repeat (rw [if_neg (by omega)])))), k3.trans (by first | rfl | (symm; simp only [up_g]; (repeat (rw [if_neg (by omega)])))), ?_, ?_, (by (simp only [up_g, Nat.reduceAdd, true_and, and_true, false_and, and_false, Nat.reduceEqDiff, if_false, if_true]) <;> (repeat (first | rw [if_neg (by omega)] | rw [if_pos (by omega)])) <;> (first | assumption | omega)), (by (simp only [up_g, Nat.reduceAdd, true_and, and_true, false_and, and_false, Nat.reduceEqDiff, if_false, if_true]) <;> (repeat (first | rw [if_neg (by omega)] | rw [if_pos (by omega)])) <;> (first | assumption | omega)), (by (simp only [up_g, Nat.reduceAdd, true_and, and_true, false_and, and_false, Nat.reduceEqDiff, if_false, if_true]) <;> (repeat (first | rw [if_neg (by omega)] | rw [if_pos (by omega)])) <;> (first | assumption | omega)), (by (simp only [up_g, Nat.reduceAdd, true_and, and_true, false_and, and_false, Nat.reduceEqDiff, if_false, if_true]) <;> (repeat (first | rw [if_neg (by omega)] | rw [if_pos (by omega)])) <;> (first | assumption | omega))⟩
    · show σ 7 i = _
      rw [k4]
      exact (by (simp only [up_g, Nat.reduceAdd, true_and, and_true, false_and, and_false, Nat.reduceEqDiff, if_false, if_true]) <;> (repeat (first | rw [if_neg (by omega)] | rw [if_pos (by omega)])) <;> (first | assumption | omega))
    · show up σ 8 q (σ 8 q - 1) 8 i = cP (τ 0 7).toNat (fun j => up (up (up τ 1 (41 + (P : Int)) 0) 1 (61 + (P : Int)) 0) 1 (81 + (P : Int)) 0 1 (41 + j)) (i + 1)
      rw [up_g]
      rw [if_neg (show ¬ (0 : Int) = i + 1 by omega)] at key
      by_cases c : i = q
      · rw [if_pos ⟨rfl, c⟩, ← c, k5]
        rw [if_pos (by omega)] at key
        omega
      · rw [if_neg (fun x => c x.2), k5]
        rw [if_neg (by omega)] at key
        omega
  · have i1 : i < τ 0 7 := i1
    obtain ⟨k1, k2, k3, k4, k5, k6, k7, k8, k9, k10, k11, k12, k13, k14, k15, k16, k17⟩ := hq i i0 i1
    simp only [Nat.reduceAdd] at k1 k2 k3 k4 k5 k6 k7 k8
    by_cases hi : i = P
    · subst hi
      exact ⟨k1, k2, (by (simp only [up_g, Nat.reduceAdd, true_and, and_true, false_and, and_false, Nat.reduceEqDiff, if_false, if_true]) <;> (repeat (first | rw [if_neg (by omega)] | rw [if_pos (by omega)])) <;> (first | assumption | omega)), (by (simp only [up_g, Nat.reduceAdd, true_and, and_true, false_and, and_false, Nat.reduceEqDiff, if_false, if_true]) <;> (repeat (first | rw [if_neg (by omega)] | rw [if_pos (by omega)])) <;> (first | assumption | omega)), (by (simp only [up_g, Nat.reduceAdd, true_and, and_true, false_and, and_false, Nat.reduceEqDiff, if_false, if_true]) <;> (repeat (first | rw [if_neg (by omega)] | rw [if_pos (by omega)])) <;> (first | assumption | omega)), (by (simp only [up_g, Nat.reduceAdd, true_and, and_true, false_and, and_false, Nat.reduceEqDiff, if_false, if_true]) <;> (repeat (first | rw [if_neg (by omega)] | rw [if_pos (by omega)])) <;> (first | assumption | omega)), (by (simp only [up_g, Nat.reduceAdd, true_and, and_true, false_and, and_false, Nat.reduceEqDiff, if_false, if_true]) <;> (repeat (first | rw [if_neg (by omega)] | rw [if_pos (by omega)])) <;> (first | assumption | omega)), (by (simp only [up_g, Nat.reduceAdd, true_and, and_true, false_and, and_false, Nat.reduceEqDiff, if_false, if_true]) <;> (repeat (first | rw [if_neg (by omega)] | rw [if_pos (by omega)])) <;> (first | assumption | omega)), (by (simp only [up_g, Nat.reduceAdd, true_and, and_true, false_and, and_false, Nat.reduceEqDiff, if_false, if_true]) <;> (repeat (first | rw [if_neg (by omega)] | rw [if_pos (by omega)])) <;> (first | assumption | omega)), (by (simp only [up_g, Nat.reduceAdd, true_and, and_true, false_and, and_false, Nat.reduceEqDiff, if_false, if_true]) <;> (repeat (first | rw [if_neg (by omega)] | rw [if_pos (by omega)])) <;> (first | assumption | omega)), (by (simp only [up_g, Nat.reduceAdd, true_and, and_true, false_and, and_false, Nat.reduceEqDiff, if_false, if_true]) <;> (repeat (first | rw [if_neg (by omega)] | rw [if_pos (by omega)])) <;> (first | assumption | omega)), (by (simp only [up_g, Nat.reduceAdd, true_and, and_true, false_and, and_false, Nat.reduceEqDiff, if_false, if_true]) <;> (repeat (first | rw [if_neg (by omega)] | rw [if_pos (by omega)])) <;> (first | assumption | omega)), k13, k14, k15, k16, (by (simp only [up_g, Nat.reduceAdd, true_and, and_true, false_and, and_false, Nat.reduceEqDiff, if_false, if_true]) <;> (repeat (first | rw [if_neg (by omega)] | rw [if_pos (by omega)])) <;> (first | assumption | omega))⟩
    · exact ⟨k1, k2, (by (simp only [up_g, Nat.reduceAdd, true_and, and_true, false_and, and_false, Nat.reduceEqDiff, if_false, if_true]) <;> (repeat (first | rw [if_neg (by omega)] | rw [if_pos (by omega)])) <;> (first | assumption | omega)), (by (simp only [up_g, Nat.reduceAdd, true_and, and_true, false_and, and_false, Nat.reduceEqDiff, if_false, if_true]) <;> (repeat (first | rw [if_neg (by omega)] | rw [if_pos (by omega)])) <;> (first | assumption | omega)), (by (simp only [up_g, Nat.reduceAdd, true_and, and_true, false_and, and_false, Nat.reduceEqDiff, if_false, if_true]) <;> (repeat (first | rw [if_neg (by omega)] | rw [if_pos (by omega)])) <;> (first | assumption | omega)), (by (simp only [up_g, Nat.reduceAdd, true_and, and_true, false_and, and_false, Nat.reduceEqDiff, if_false, if_true]) <;> (repeat (first | rw [if_neg (by omega)] | rw [if_pos (by omega)])) <;> (first | assumption | omega)), (by (simp only [up_g, Nat.reduceAdd, true_and, and_true, false_and, and_false, Nat.reduceEqDiff, if_false, if_true]) <;> (repeat (first | rw [if_neg (by omega)] | rw [if_pos (by omega)])) <;> (first | assumption | omega)), (by (simp only [up_g, Nat.reduceAdd, true_and, and_true, false_and, and_false, Nat.reduceEqDiff, if_false, if_true]) <;> (repeat (first | rw [if_neg (by omega)] | rw [if_pos (by omega)])) <;> (first | assumption | omega)), (by (simp only [up_g, Nat.reduceAdd, true_and, and_true, false_and, and_false, Nat.reduceEqDiff, if_false, if_true]) <;> (repeat (first | rw [if_neg (by omega)] | rw [if_pos (by omega)])) <;> (first | assumption | omega)), (by (simp only [up_g, Nat.reduceAdd, true_and, and_true, false_and, and_false, Nat.reduceEqDiff, if_false, if_true]) <;> (repeat (first | rw [if_neg (by omega)] | rw [if_pos (by omega)])) <;> (first | assumption | omega)), (by (simp only [up_g, Nat.reduceAdd, true_and, and_true, false_and, and_false, Nat.reduceEqDiff, if_false, if_true]) <;> (repeat (first | rw [if_neg (by omega)] | rw [if_pos (by omega)])) <;> (first | assumption | omega)), (by (simp only [up_g, Nat.reduceAdd, true_and, and_true, false_and, and_false, Nat.reduceEqDiff, if_false, if_true]) <;> (repeat (first | rw [if_neg (by omega)] | rw [if_pos (by omega)])) <;> (first | assumption | omega)), k13, k14, k15, k16, (by (simp only [up_g, Nat.reduceAdd, true_and, and_true, false_and, and_false, Nat.reduceEqDiff, if_false, if_true]) <;> (repeat (first | rw [if_neg (by omega)] | rw [if_pos (by omega)])) <;> (first | assumption | omega))⟩
/-- somebody sits down -/
theorem RH.sitd {σ τ : St} (h : RH σ 3 τ) {p q m : Int} (p0 : 0 ≤ p) (p1 : p < τ 0 7) (q0 : 0 ≤ q) (q1 : q < τ 0 6) (hs : τ 1 (41 + p) = 0) : RH (up (up (up (up σ 11 p q) 12 p 0) 13 p m) 8 q (σ 8 q + 1)) 3 (up (up (up τ 1 (41 + p) (q + 1)) 1 (61 + p) 0) 1 (81 + p) m) := by
  obtain ⟨⟨a1, a2, a3, a4, a5, a6⟩, ⟨b1, b2, b3, b4, b5, b6⟩, hp, hq⟩ := h
  obtain ⟨P, rfl⟩ : ∃ P : Nat, p = P := ⟨p.toNat, by omega⟩
  refine ⟨⟨a1.trans (by first | rfl | (symm; simp only [up_g]; (repeat (rw [if_neg (by omega)])))), a2.trans (by first | rfl | (symm; simp only [up_g]; (repeat (rw [if_neg (by omega)])))), a3.trans (by first | rfl | (symm; simp only [up_g]; (repeat (rw [if_neg (by omega)])))), a4.trans (by first | rfl | (symm; simp only [up_g]; (repeat (rw [if_neg (by omega)])))), a5, a6⟩, ⟨b1, b2, b3, b4, (by (simp only [up_g, Nat.reduceAdd, true_and, and_true, false_and, and_false, Nat.reduceEqDiff, if_false, if_true]) <;> (repeat (first | rw [if_neg (by omega)] | rw [if_pos (by omega)])) <;> (first | assumption | omega)), (by (simp only [up_g, Nat.reduceAdd, true_and, and_true, false_and, and_false, Nat.reduceEqDiff, if_false, if_true]) <;> (repeat (first | rw [if_neg (by omega)] | rw [if_pos (by omega)])) <;> (first | assumption | omega))⟩, fun i i0 i1 => ?_, fun i i0 i1 => ?_⟩
  · have i1 : i < τ 0 6 := i1
    obtain ⟨k1, k2, k3, k4, k5, k6, k7, k8, k9⟩ := hp i i0 i1
    simp only [Nat.reduceAdd] at k1 k2 k3 k4 k5
    have key := cP_up (f := fun j => τ 1 (41 + j)) (g := fun j => up (up (up τ 1 (41 + (P : Int)) (q + 1)) 1 (61 + (P : Int)) 0) 1 (81 + (P : Int)) m 1 (41 + j)) (v := i + 1) (p := P) (n := (τ 0 7).toNat) (by omega) (fun k hk hne => (by (simp only [up_g, Nat.reduceAdd, true_and, and_true, false_and, and_false, Nat.reduceEqDiff, if_false, if_true]) <;> (repeat (first | rw [if_neg (by omega)] | rw [if_pos (by omega)])) <;> (first | assumption | omega)))
    have gp : up (up (up τ 1 (41 + (P : Int)) (q + 1)) 1 (61 + (P : Int)) 0) 1 (81 + (P : Int)) m 1 (41 + (P : Int)) = q + 1 := (by (simp only [up_g, Nat.reduceAdd, true_and, and_true, false_and, and_false, Nat.reduceEqDiff, if_false, if_true]) <;> (repeat (first | rw [if_neg (by omega)] | rw [if_pos (by omega)])) <;> (first | assumption | omega))
    simp only [gp, hs] at key
    refine ⟨k1, k2.trans (by first | rfl | (symm; simp only [up_g]; (repeat (rw [if_neg (by omega)])))), k3.trans (by first | rfl | (symm; simp only [up_g]; (repeat (rw [if_neg (by omega)])))), ?_, ?_, (by (simp only [up_g, Nat.reduceAdd, true_and, and_true, false_and, and_false, Nat.reduceEqDiff, if_false, if_true]) <;> (repeat (first | rw [if_neg (by omega)] | rw [if_pos (by omega)])) <;> (first | assumption | omega)), (by (simp only [up_g, Nat.reduceAdd, true_and, and_true, false_and, and_false, Nat.reduceEqDiff, if_false, if_true]) <;> (repeat (first | rw [if_neg (by omega)] | rw [if_pos (by omega)])) <;> (first | assumption | omega)), (by (simp only [up_g, Nat.reduceAdd, true_and, and_true, false_and, and_false, Nat.reduceEqDiff, if_false, if_true]) <;> (repeat (first | rw [if_neg (by omega)] | rw [if_pos (by omega)])) <;> (first | assumption | omega)), (by (simp only [up_g, Nat.reduceAdd, true_and, and_true, false_and, and_false, Nat.reduceEqDiff, if_false, if_true]) <;> (repeat (first | rw [if_neg (by omega)] | rw [if_pos (by omega)])) <;> (first | assumption | omega))⟩
    · show σ 7 i = _
      rw [k4]
      exact (by (simp only [up_g, Nat.reduceAdd, true_and, and_true, false_and, and_false, Nat.reduceEqDiff, if_false, if_true]) <;> (repeat (first | rw [if_neg (by omega)] | rw [if_pos (by omega)])) <;> (first | assumption | omega))
    · show up (up (up (up σ 11 P q) 12 P 0) 13 P m) 8 q (σ 8 q + 1) 8 i = cP (τ 0 7).toNat (fun j => up (up (up τ 1 (41 + (P : Int)) (q + 1)) 1 (61 + (P : Int)) 0) 1 (81 + (P : Int)) m 1 (41 + j)) (i + 1)
      rw [up_g]
      rw [if_neg (show ¬ (0 : Int) = i + 1 by omega)] at key
      by_cases c : i = q
      · rw [if_pos ⟨rfl, c⟩, show σ 8 q = σ 8 i by rw [c], k5]
        rw [if_pos (by omega)] at key
        omega
      · rw [if_neg (fun x => c x.2)]
        rw [if_neg (by omega)] at key
        show σ 8 i = _
        rw [k5]
        omega
  · have i1 : i < τ 0 7 := i1
    obtain ⟨k1, k2, k3, k4, k5, k6, k7, k8, k9, k10, k11, k12, k13, k14, k15, k16, k17⟩ := hq i i0 i1
    simp only [Nat.reduceAdd] at k1 k2 k3 k4 k5 k6 k7 k8
    by_cases hi : i = P
    · subst hi
      exact ⟨k1, k2, (by (simp only [up_g, Nat.reduceAdd, true_and, and_true, false_and, and_false, Nat.reduceEqDiff, if_false, if_true]) <;> (repeat (first | rw [if_neg (by omega)] | rw [if_pos (by omega)])) <;> (first | assumption | omega)), (by (simp only [up_g, Nat.reduceAdd, true_and, and_true, false_and, and_false, Nat.reduceEqDiff, if_false, if_true]) <;> (repeat (first | rw [if_neg (by omega)] | rw [if_pos (by omega)])) <;> (first | assumption | omega)), (by (simp only [up_g, Nat.reduceAdd, true_and, and_true, false_and, and_false, Nat.reduceEqDiff, if_false, if_true]) <;> (repeat (first | rw [if_neg (by omega)] | rw [if_pos (by omega)])) <;> (first | assumption | omega)), (by (simp only [up_g, Nat.reduceAdd, true_and, and_true, false_and, and_false, Nat.reduceEqDiff, if_false, if_true]) <;> (repeat (first | rw [if_neg (by omega)] | rw [if_pos (by omega)])) <;> (first | assumption | omega)), (by (simp only [up_g, Nat.reduceAdd, true_and, and_true, false_and, and_false, Nat.reduceEqDiff, if_false, if_true]) <;> (repeat (first | rw [if_neg (by omega)] | rw [if_pos (by omega)])) <;> (first | assumption | omega)), (by (simp only [up_g, Nat.reduceAdd, true_and, and_true, false_and, and_false, Nat.reduceEqDiff, if_false, if_true]) <;> (repeat (first | rw [if_neg (by omega)] | rw [if_pos (by omega)])) <;> (first | assumption | omega)), (by (simp only [up_g, Nat.reduceAdd, true_and, and_true, false_and, and_false, Nat.reduceEqDiff, if_false, if_true]) <;> (repeat (first | rw [if_neg (by omega)] | rw [if_pos (by omega)])) <;> (first | assumption | omega)), (by (simp only [up_g, Nat.reduceAdd, true_and, and_true, false_and, and_false, Nat.reduceEqDiff, if_false, if_true]) <;> (repeat (first | rw [if_neg (by omega)] | rw [if_pos (by omega)])) <;> (first | assumption | omega)), (by (simp only [up_g, Nat.reduceAdd, true_and, and_true, false_and, and_false, Nat.reduceEqDiff, if_false, if_true]) <;> (repeat (first | rw [if_neg (by omega)] | rw [if_pos (by omega)])) <;> (first | assumption | omega)), (by (simp only [up_g, Nat.reduceAdd, true_and, and_true, false_and, and_false, Nat.reduceEqDiff, if_false, if_true]) <;> (repeat (first | rw [if_neg (by omega)] | rw [if_pos (by omega)])) <;> (first | assumption | omega)), k13, k14, k15, k16, (by (simp only [up_g, Nat.reduceAdd, true_and, and_true, false_and, and_false, Nat.reduceEqDiff, if_false, if_true]) <;> (repeat (first | rw [if_neg (by omega)] | rw [if_pos (by omega)])) <;> (first | assumption | omega))⟩
    · exact ⟨k1, k2, (by (simp only [up_g, Nat.reduceAdd, true_and, and_true, false_and, and_false, Nat.reduceEqDiff, if_false, if_true]) <;> (repeat (first | rw [if_neg (by omega)] | rw [if_pos (by omega)])) <;> (first | assumption | omega)), (by (simp only [up_g, Nat.reduceAdd, true_and, and_true, false_and, and_false, Nat.reduceEqDiff, if_false, if_true]) <;> (repeat (first | rw [if_neg (by omega)] | rw [if_pos (by omega)])) <;> (first | assumption | omega)), (by (simp only [up_g, Nat.reduceAdd, true_and, and_true, false_and, and_false, Nat.reduceEqDiff, if_false, if_true]) <;> (repeat (first | rw [if_neg (by omega)] | rw [if_pos (by omega)])) <;> (first | assumption | omega)), (by (simp only [up_g, Nat.reduceAdd, true_and, and_true, false_and, and_false, Nat.reduceEqDiff, if_false, if_true]) <;> (repeat (first | rw [if_neg (by omega)] | rw [if_pos (by omega)])) <;> (first | assumption | omega)), (by (simp only [up_g, Nat.reduceAdd, true_and, and_true, false_and, and_false, Nat.reduceEqDiff, if_false, if_true]) <;> (repeat (first | rw [if_neg (by omega)] | rw [if_pos (by omega)])) <;> (first | assumption | omega)), (by (simp only [up_g, Nat.reduceAdd, true_and, and_true, false_and, and_false, Nat.reduceEqDiff, if_false, if_true]) <;> (repeat (first | rw [if_neg (by omega)] | rw [if_pos (by omega)])) <;> (first | assumption | omega)), (by (simp only [up_g, Nat.reduceAdd, true_and, and_true, false_and, and_false, Nat.reduceEqDiff, if_false, if_true]) <;> (repeat (first | rw [if_neg (by omega)] | rw [if_pos (by omega)])) <;> (first | assumption | omega)), (by (simp only [up_g, Nat.reduceAdd, true_and, and_true, false_and, and_false, Nat.reduceEqDiff, if_false, if_true]) <;> (repeat (first | rw [if_neg (by omega)] | rw [if_pos (by omega)])) <;> (first | assumption | omega)), (by (simp only [up_g, Nat.reduceAdd, true_and, and_true, false_and, and_false, Nat.reduceEqDiff, if_false, if_true]) <;> (repeat (first | rw [if_neg (by omega)] | rw [if_pos (by omega)])) <;> (first | assumption | omega)), (by (simp only [up_g, Nat.reduceAdd, true_and, and_true, false_and, and_false, Nat.reduceEqDiff, if_false, if_true]) <;> (repeat (first | rw [if_neg (by omega)] | rw [if_pos (by omega)])) <;> (first | assumption | omega)), k13, k14, k15, k16, (by (simp only [up_g, Nat.reduceAdd, true_and, and_true, false_and, and_false, Nat.reduceEqDiff, if_false, if_true]) <;> (repeat (first | rw [if_neg (by omega)] | rw [if_pos (by omega)])) <;> (first | assumption | omega))⟩
