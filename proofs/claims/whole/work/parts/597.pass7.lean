/-! a minute: who has stayed, lamps -/
theorem stay2 {t : Int} {σ τ : St} (h : MQm t σ τ) {α β : Type} {k1 : Int → St → Rs α} {k2 : Unit → St → Rs β} {P : α → St → β → St → Prop} (hk : ∀ r r' σ' τ', Mv t σ τ σ' τ' → Ok2 (k1 r σ') (k2 r' τ') P) : Ok2 (bnd (fX1_stayOrRise σ) k1) (bnd (itr FUEL (fun (x34 : Int) s35 =>
fld s35 0 7 fun v37 =>
if x34 < v37 then (
bnd (fX12_doesSit x34 s35) fun r39 s40 =>
if r39 = 0 then (
some (.inl (w32 (x34 + 1)), s40))
else
lod s40 1 161 (w32 (61 + x34)) fun v42 =>
sto s40 1 161 (w32 (61 + x34)) (w32 (v42 + 1)) fun s44 =>
lod s44 1 161 (w32 (61 + x34)) fun v45 =>
lod s44 1 161 (w32 (81 + x34)) fun v47 =>
if v45 < v47 then (
some (.inl (w32 (x34 + 1)), s44))
else
bnd (fX12_getsUp x34 s44) fun r49 s50 =>
some (.inl (w32 (x34 + 1)), s50))
else
(some (.inr (), s35) : Rs (Int ⊕ Unit))) 0 τ) k2) P := by
  obtain ⟨M, hM⟩ : ∃ M : Nat, τ 0 7 = M := ⟨(τ 0 7).toNat, by have := h.1.2.1.2.2.1; omega⟩
  have M20 : M ≤ 20 := by have := h.1.2.1.2.2.2.1; omega
  unfold fX1_stayOrRise
  rw [bnd_assoc]
  refine ok2_bnd (ok2_for M (fun i x σ' y τ' => x = (i : Int) ∧ y = (i : Int) ∧ Mv t σ τ σ' τ') (by omega) ⟨rfl, rfl, Mv.rf h⟩ ?_ ?_)
  · rintro i x σ' y τ' hi ⟨rfl, rfl, g⟩
    have hM' : τ' 0 7 = M := (g.2.2.1.2 7 (by decide)).trans hM
    obtain ⟨⟨a1, a2, a3, a4, a5, a6⟩, ⟨b1, b2, b3, b4, b5, b6⟩, hp, hq⟩ := g.1.1
    obtain ⟨q1, q2, q3, q4, q5, q6, q7, q8, q9, q10, q11, q12, q13, q14, q15, q16, q17⟩ := hq i (by omega) (by omega)
    simp only [Nat.reduceAdd] at q3 q4 q5
    have wi := (wq4 (i := i) (by omega)).1
    have w41 := Hd.m (show w32 (41 + (i : Int)) = 41 + i from w32_sm (by omega))
    have w61 := Hd.m (show w32 (61 + (i : Int)) = 61 + i from w32_sm (by omega))
    have w81 := Hd.m (show w32 (81 + (i : Int)) = 81 + i from w32_sm (by omega))
    have l161 : ∀ {β : Type} {σ : St} {i : Int} {g : Int → Rs β}, 0 ≤ i ∧ i < 161 → lod σ 1 161 i g = g (σ 1 i) := fun {β σ i g} h => lod_eq (by omega)
    have l20 : ∀ {β : Type} {k : Nat} {σ : St} {g : Int → Rs β}, lod σ k 20 (i : Int) g = g (σ k i) := fun {β k σ g} => lod_eq (by omega)
    unfold fX12_doesSit
    rw [fld_eq, fld_eq, a6, hM', if_pos (show (i : Int) < (M : Int) by omega), if_pos (show (i : Int) < (M : Int) by omega), l20, q3, w41.o, w61.o, w81.o, l161 (by omega), wi.o]
    by_cases s : 0 < τ' 1 (41 + (i : Int))
    · have e1 : up σ' 12 (i : Int) (w32 (τ' 1 (61 + (i : Int)) + 1)) 12 (i : Int) = w32 (τ' 1 (61 + (i : Int)) + 1) := (by (simp only [up_g, Nat.reduceAdd, true_and, and_true, false_and, and_false, Nat.reduceEqDiff, if_false, if_true]) <;> (repeat (first | rw [if_neg (by omega)] | rw [if_pos (by omega)])) <;> (first | assumption | omega))
      have e2 : up σ' 12 (i : Int) (w32 (τ' 1 (61 + (i : Int)) + 1)) 13 (i : Int) = τ' 1 (81 + (i : Int)) := q5
      have e3 : up τ' 1 (61 + (i : Int)) (w32 (τ' 1 (61 + (i : Int)) + 1)) 1 (61 + (i : Int)) = w32 (τ' 1 (61 + (i : Int)) + 1) := (by (simp only [up_g, Nat.reduceAdd, true_and, and_true, false_and, and_false, Nat.reduceEqDiff, if_false, if_true]) <;> (repeat (first | rw [if_neg (by omega)] | rw [if_pos (by omega)])) <;> (first | assumption | omega))
      have e4 : up τ' 1 (61 + (i : Int)) (w32 (τ' 1 (61 + (i : Int)) + 1)) 1 (81 + (i : Int)) = τ' 1 (81 + (i : Int)) := (by (simp only [up_g, Nat.reduceAdd, true_and, and_true, false_and, and_false, Nat.reduceEqDiff, if_false, if_true]) <;> (repeat (first | rw [if_neg (by omega)] | rw [if_pos (by omega)])) <;> (first | assumption | omega))
      have m : Mv t σ' τ' (up σ' 12 (i : Int) (w32 (τ' 1 (61 + (i : Int)) + 1))) (up τ' 1 (61 + (i : Int)) (w32 (τ' 1 (61 + (i : Int)) + 1))) := Mv.nb g.1 (by repeat (first | exact Fr.rf | exact fx | refine Fr.up ?_ (by decide))) (by repeat (first | exact Fm.rf | exact fm | exact fm.mono (by decide) (by decide) | refine Fm.u0 ?_ (by decide) | refine Fm.up ?_ (by decide) (by decide))) (by (simp only [up_g, Nat.reduceAdd, true_and, and_true, false_and, and_false, Nat.reduceEqDiff, if_false, if_true]) <;> (repeat (first | rw [if_neg (by omega)] | rw [if_pos (by omega)])) <;> (first | assumption | omega)) (g.1.1.stay (by omega) (by omega) s)
      rw [if_neg (show ¬ τ' 1 (41 + (i : Int)) - 1 = -1 by omega), if_pos s, bnd_some, if_neg (show ¬ ((1 : Int) = 0) by decide), l20, q4, sto_eq (by omega), l20, l20, e1, e2, l161 (by omega), sto_eq (by omega), l161 (by omega), l161 (by omega), e3, e4]
      by_cases c : w32 (τ' 1 (61 + (i : Int)) + 1) < τ' 1 (81 + (i : Int))
      · rw [if_pos c, if_pos c, ok2_some]
        exact ⟨rfl, rfl, g.tr m⟩
      · rw [if_neg c, if_neg c]
        have hM2 : (up τ' 1 (61 + (i : Int)) (w32 (τ' 1 (61 + (i : Int)) + 1))) 0 7 = M := hM'
        refine ok2_bnd (ok2_mono (rise2 m.1 (p := i) (by omega) (by omega)) ?_)
        rintro _ σ2 _ τ2 m2
        rw [ok2_some]
        exact ⟨rfl, rfl, g.tr (m.tr m2)⟩
    · rw [if_pos (show τ' 1 (41 + (i : Int)) - 1 = -1 by omega), if_neg s, bnd_some, if_pos rfl, ok2_some]
      exact ⟨rfl, rfl, g⟩
  · rintro x σ' y τ' ⟨rfl, rfl, g⟩
    have hM' : τ' 0 7 = M := (g.2.2.1.2 7 (by decide)).trans hM
    have a6 := g.1.1.1.2.2.2.2.2
    rw [fld_eq, fld_eq, a6, hM', if_neg (by omega), if_neg (by omega), ok2_some]
    show Ok2 (bnd (some ((0 : Int), σ')) k1) _ P
    rw [bnd_some]
    exact hk _ _ _ _ g
theorem accept2 {t : Int} {σ τ : St} (h : MQm t σ τ) {p m : Int} (c1 : 0 ≤ p ∧ p < τ 0 6) (c2 : 0 ≤ m ∧ m < τ 0 7) : Ok2 (bnd (itr FUEL (fun (x8 : Int) s9 =>
fld s9 3 5 fun v11 =>
if x8 < v11 then (
lod s9 11 20 x8 fun v13 =>
bnd (
if v13 = p then (
if x8 = m then (
some (0, s9))
else
some (1, s9))
else
some (0, s9)) fun (y15 : Int) s16 =>
if y15 = 0 then (
some (.inl (w32 (x8 + 1)), s16))
else
lod s16 16 20 x8 fun v18 =>
if v18 = (-1) then (
sto s16 16 20 x8 m fun s20 =>
bnd (fX1_write 3 x8 m s20) fun r21 s22 =>
some (.inl (w32 (x8 + 1)), s22))
else
some (.inl (w32 (x8 + 1)), s16))
else
(some (.inr (), s9) : Rs (Int ⊕ Unit))) 0 σ) fun (y24 : Unit) s25 =>
(some (0, s25) : Rs Int)) (bnd (itr FUEL (fun (x15 : Int) s16 =>
fld s16 0 7 fun v18 =>
if x15 < v18 then (
if x15 = m then (
some (.inl (w32 (x15 + 1)), s16))
else
bnd (fX12_sitsOn x15 s16) fun r20 s21 =>
if r20 = p then (
lod s21 1 161 (w32 (141 + x15)) fun v23 =>
if 0 < v23 then (
some (.inl (w32 (x15 + 1)), s21))
else
sto s21 1 161 (w32 (141 + x15)) (w32 (m + 1)) fun s25 =>
bnd (fX12_notes 3 x15 m s25) fun r26 s27 =>
some (.inl (w32 (x15 + 1)), s27))
else
some (.inl (w32 (x15 + 1)), s21))
else
(some (.inr (), s16) : Rs (Int ⊕ Unit))) 0 τ) fun (y29 : Unit) s30 =>
(some (0, s30) : Rs Int)) fun _ σ' _ τ' => Mv t σ τ σ' τ' := by
  obtain ⟨M, hM⟩ : ∃ M : Nat, τ 0 7 = M := ⟨(τ 0 7).toNat, by have := h.1.2.1.2.2.1; omega⟩
  have M20 : M ≤ 20 := by have := h.1.2.1.2.2.2.1; omega
  have wm := Hd.m (show w32 (m + 1) = m + 1 from w32_sm (by omega))
  refine ok2_bnd (ok2_for M (fun i x σ' y τ' => x = (i : Int) ∧ y = (i : Int) ∧ Mv t σ τ σ' τ') (by omega) ⟨rfl, rfl, Mv.rf h⟩ ?_ ?_)
  · rintro i x σ' y τ' hi ⟨rfl, rfl, g⟩
    have hM' : τ' 0 7 = M := (g.2.2.1.2 7 (by decide)).trans hM
    obtain ⟨⟨a1, a2, a3, a4, a5, a6⟩, ⟨b1, b2, b3, b4, b5, b6⟩, hp, hq⟩ := g.1.1
    obtain ⟨q1, q2, q3, q4, q5, q6, q7, q8, q9, q10, q11, q12, q13, q14, q15, q16, q17⟩ := hq i (by omega) (by omega)
    simp only [Nat.reduceAdd] at q3 q8
    have wi := (wq4 (i := i) (by omega)).1
    have w41 := Hd.m (show w32 (41 + (i : Int)) = 41 + i from w32_sm (by omega))
    have w141 := Hd.m (show w32 (141 + (i : Int)) = 141 + i from w32_sm (by omega))
    have ws := Hd.m (show w32 (τ' 1 (41 + (i : Int)) - 1) = τ' 1 (41 + (i : Int)) - 1 from w32_sm (by omega))
    have l161 : ∀ {β : Type} {σ : St} {i : Int} {g : Int → Rs β}, 0 ≤ i ∧ i < 161 → lod σ 1 161 i g = g (σ 1 i) := fun {β σ i g} h => lod_eq (by omega)
    have l20 : ∀ {β : Type} {k : Nat} {σ : St} {g : Int → Rs β}, lod σ k 20 (i : Int) g = g (σ k i) := fun {β k σ g} => lod_eq (by omega)
    unfold fX12_sitsOn
    rw [fld_eq, fld_eq, a6, hM', if_pos (show (i : Int) < (M : Int) by omega), if_pos (show (i : Int) < (M : Int) by omega), l20, q3, w41.o, w141.o, l161 (by omega), bnd_some, ws.o, wi.o]
    by_cases e : (i : Int) = m
    · rw [if_pos e, if_pos e]
      split
      · rw [bnd_some, if_pos rfl, ok2_some]
        exact ⟨rfl, rfl, g⟩
      · rw [bnd_some, if_pos rfl, ok2_some]
        exact ⟨rfl, rfl, g⟩
    · rw [if_neg e, if_neg e]
      by_cases s : τ' 1 (41 + (i : Int)) - 1 = p
      · rw [if_pos s, if_pos s, bnd_some, if_neg (show ¬ ((1 : Int) = 0) by decide), l20, q8, l161 (by omega)]
        by_cases a : 0 < τ' 1 (141 + (i : Int))
        · rw [if_neg (show ¬ τ' 1 (141 + (i : Int)) - 1 = -1 by omega), if_pos a, ok2_some]
          exact ⟨rfl, rfl, g⟩
        · rw [if_pos (show τ' 1 (141 + (i : Int)) - 1 = -1 by omega), if_neg a, sto_eq (by omega), sto_eq (by omega), wm.o]
          have k : Mv t σ' τ' (up σ' 16 (i : Int) m) (up τ' 1 (141 + (i : Int)) (m + 1)) := Mv.nb g.1 (by repeat (first | exact Fr.rf | exact fx | refine Fr.up ?_ (by decide))) (by repeat (first | exact Fm.rf | exact fm | exact fm.mono (by decide) (by decide) | refine Fm.u0 ?_ (by decide) | refine Fm.up ?_ (by decide) (by decide))) (by (simp only [up_g, Nat.reduceAdd, true_and, and_true, false_and, and_false, Nat.reduceEqDiff, if_false, if_true]) <;> (repeat (first | rw [if_neg (by omega)] | rw [if_pos (by omega)])) <;> (first | assumption | omega)) (g.1.1.acce (by omega) (by omega) (by omega) (by omega))
          refine ok2_bnd (ok2_mono (write2 k.1) ?_)
          rintro _ σ2 _ τ2 ⟨k2, _⟩
          rw [ok2_some]
          exact ⟨rfl, rfl, g.tr (k.tr k2)⟩
      · rw [if_neg s, if_neg s, bnd_some, if_pos rfl, ok2_some]
        exact ⟨rfl, rfl, g⟩
  · rintro x σ' y τ' ⟨rfl, rfl, g⟩
    have hM' : τ' 0 7 = M := (g.2.2.1.2 7 (by decide)).trans hM
    have a6 := g.1.1.1.2.2.2.2.2
    rw [fld_eq, fld_eq, a6, hM', if_neg (by omega), if_neg (by omega), ok2_some]
    show Ok2 (some ((0 : Int), σ')) (some ((0 : Int), τ')) _
    rw [ok2_some]
    exact g
theorem burn2 {t : Int} {σ τ : St} (h : MQm t σ τ) {α β : Type} {k1 : Int → St → Rs α} {k2 : Unit → St → Rs β} {P : α → St → β → St → Prop} (hk : ∀ r r' σ' τ', Mv t σ τ σ' τ' → Ok2 (k1 r σ') (k2 r' τ') P) : Ok2 (bnd (fX1_burnLamps σ) k1) (bnd (itr FUEL (fun (x55 : Int) s56 =>
fld s56 0 6 fun v58 =>
if x55 < v58 then (
bnd (fX12_lampBurns x55 s56) fun r60 s61 =>
some (.inl (w32 (x55 + 1)), s61))
else
(some (.inr (), s56) : Rs (Int ⊕ Unit))) 0 τ) k2) P := by
  obtain ⟨M, hM⟩ : ∃ M : Nat, τ 0 6 = M := ⟨(τ 0 6).toNat, by have := h.1.2.1.1; omega⟩
  have M12 : M ≤ 12 := by have := h.1.2.1.2.1; omega
  unfold fX1_burnLamps
  rw [bnd_assoc]
  refine ok2_bnd (ok2_for M (fun i x σ' y τ' => x = (i : Int) ∧ y = (i : Int) ∧ Mv t σ τ σ' τ') (by omega) ⟨rfl, rfl, Mv.rf h⟩ ?_ ?_)
  · rintro i x σ' y τ' hi ⟨rfl, rfl, g⟩
    have hM' : τ' 0 6 = M := (g.2.2.1.2 6 (by decide)).trans hM
    obtain ⟨⟨a1, a2, a3, a4, a5, a6⟩, ⟨b1, b2, b3, b4, b5, b6⟩, hp, hq⟩ := g.1.1
    obtain ⟨q1, q2, q3, q4, q5, q6, q7, q8, q9⟩ := hp i (by omega) (by omega)
    simp only [Nat.reduceAdd] at q2 q4
    have wi := (wq4 (i := i) (by omega)).1
    have w5 := Hd.m (show w32 (5 + (i : Int)) = 5 + i from w32_sm (by omega))
    have w29 := Hd.m (show w32 (29 + (i : Int)) = 29 + i from w32_sm (by omega))
    have wl := Hd.m (show w32 (τ' 1 (5 + (i : Int)) - 1) = τ' 1 (5 + (i : Int)) - 1 from w32_sm (by omega))
    have wm := Hd.m (show w32 (τ' 1 (29 + (i : Int)) - 1) = τ' 1 (29 + (i : Int)) - 1 from w32_sm (by omega))
    have l161 : ∀ {β : Type} {σ : St} {i : Int} {g : Int → Rs β}, 0 ≤ i ∧ i < 161 → lod σ 1 161 i g = g (σ 1 i) := fun {β σ i g} h => lod_eq (by omega)
    have l12 : ∀ {β : Type} {k : Nat} {σ : St} {g : Int → Rs β}, lod σ k 12 (i : Int) g = g (σ k i) := fun {β k σ g} => lod_eq (by omega)
    unfold fX12_lampBurns
    rw [fld_eq, fld_eq, a5, hM', if_pos (show (i : Int) < (M : Int) by omega), if_pos (show (i : Int) < (M : Int) by omega), l12, q2, w5.o, w29.o, l161 (by omega), wi.o]
    by_cases c : τ' 1 (5 + (i : Int)) = 0
    · rw [if_pos c, if_pos c, bnd_some, ok2_some]
      exact ⟨rfl, rfl, g⟩
    · have e1 : up σ' 5 (i : Int) (τ' 1 (5 + (i : Int)) - 1) 5 (i : Int) = τ' 1 (5 + (i : Int)) - 1 := (by (simp only [up_g, Nat.reduceAdd, true_and, and_true, false_and, and_false, Nat.reduceEqDiff, if_false, if_true]) <;> (repeat (first | rw [if_neg (by omega)] | rw [if_pos (by omega)])) <;> (first | assumption | omega))
      have e3 : up τ' 1 (5 + (i : Int)) (τ' 1 (5 + (i : Int)) - 1) 1 (5 + (i : Int)) = τ' 1 (5 + (i : Int)) - 1 := (by (simp only [up_g, Nat.reduceAdd, true_and, and_true, false_and, and_false, Nat.reduceEqDiff, if_false, if_true]) <;> (repeat (first | rw [if_neg (by omega)] | rw [if_pos (by omega)])) <;> (first | assumption | omega))
      have e4 : up τ' 1 (5 + (i : Int)) (τ' 1 (5 + (i : Int)) - 1) 1 (29 + (i : Int)) = τ' 1 (29 + (i : Int)) := (by (simp only [up_g, Nat.reduceAdd, true_and, and_true, false_and, and_false, Nat.reduceEqDiff, if_false, if_true]) <;> (repeat (first | rw [if_neg (by omega)] | rw [if_pos (by omega)])) <;> (first | assumption | omega))
      have e5 : up σ' 5 (i : Int) (τ' 1 (5 + (i : Int)) - 1) 7 (i : Int) = τ' 1 (29 + (i : Int)) - 1 := q4
      have m : Mv t σ' τ' (up σ' 5 (i : Int) (τ' 1 (5 + (i : Int)) - 1)) (up τ' 1 (5 + (i : Int)) (τ' 1 (5 + (i : Int)) - 1)) := Mv.nb g.1 (by repeat (first | exact Fr.rf | exact fx | refine Fr.up ?_ (by decide))) (by repeat (first | exact Fm.rf | exact fm | exact fm.mono (by decide) (by decide) | refine Fm.u0 ?_ (by decide) | refine Fm.up ?_ (by decide) (by decide))) (by (simp only [up_g, Nat.reduceAdd, true_and, and_true, false_and, and_false, Nat.reduceEqDiff, if_false, if_true]) <;> (repeat (first | rw [if_neg (by omega)] | rw [if_pos (by omega)])) <;> (first | assumption | omega)) (g.1.1.lampc (by omega) (by omega) (by omega) (by omega))
      rw [if_neg c, if_neg c, l12, q2, wl.o, sto_eq (by omega), l12, e1, l161 (by omega), wl.o, sto_eq (by omega), l161 (by omega), e4, wm.o, lb_eq, l161 (by omega), e3]
      by_cases d : τ' 1 (5 + (i : Int)) - 1 = 0
      · unfold fX1_acceptAt fX12_sitsOn
        have x5 : up σ' 5 (i : Int) (τ' 1 (5 + (i : Int)) - 1) 3 5 = τ' 0 7 := a6
        rw [if_pos d, if_neg (show ¬ 0 < τ' 1 (5 + (i : Int)) - 1 by omega), l12, e5, hasPerson_eq, bnd_some, x5]
        by_cases k : τ' 1 (29 + (i : Int)) - 1 = -1
        · rw [if_neg (show ¬ (0 ≤ τ' 1 (29 + (i : Int)) - 1 ∧ τ' 1 (29 + (i : Int)) - 1 < τ' 0 7) by omega), if_pos rfl, bnd_some, if_pos k, bnd_some, ok2_some]
          exact ⟨rfl, rfl, g.tr m⟩
        · have ck : 0 ≤ τ' 1 (29 + (i : Int)) - 1 ∧ τ' 1 (29 + (i : Int)) - 1 < τ' 0 7 := by omega
          obtain ⟨_, _, u3, _, _, _, _, _, u9, u10, _⟩ := m.1.1.2.2.2 _ ck.1 ck.2
          simp only [Nat.reduceAdd] at u3
          have w41 := Hd.m (show w32 (41 + (τ' 1 (29 + (i : Int)) - 1)) = 41 + (τ' 1 (29 + (i : Int)) - 1) from w32_sm (by omega))
          rw [if_pos ck, if_neg (show ¬ ((1 : Int) = 0) by decide), lod_eq (by omega), u3, if_neg k, w41.o, l161 (by omega), bnd_some]
          have m6 : (up τ' 1 (5 + (i : Int)) (τ' 1 (5 + (i : Int)) - 1)) 0 6 = τ' 0 6 := rfl
          rw [m6] at u10
          have ws := Hd.m (show w32 (up τ' 1 (5 + (i : Int)) (τ' 1 (5 + (i : Int)) - 1) 1 (41 + (τ' 1 (29 + (i : Int)) - 1)) - 1) = up τ' 1 (5 + (i : Int)) (τ' 1 (5 + (i : Int)) - 1) 1 (41 + (τ' 1 (29 + (i : Int)) - 1)) - 1 from w32_sm (by omega))
          rw [ws.o]
          by_cases s : up τ' 1 (5 + (i : Int)) (τ' 1 (5 + (i : Int)) - 1) 1 (41 + (τ' 1 (29 + (i : Int)) - 1)) - 1 = (i : Int)
          · rw [if_pos s, if_pos s]
            refine ok2_bnd (ok2_mono (accept2 m.1 (p := (i : Int)) (m := τ' 1 (29 + (i : Int)) - 1) (by rw [m6]; omega) ck) ?_)
            rintro _ σ2 _ τ2 m2
            rw [ok2_some]
            exact ⟨rfl, rfl, g.tr (m.tr m2)⟩
          · rw [if_neg s, if_neg s, bnd_some, bnd_some, ok2_some]
            exact ⟨rfl, rfl, g.tr m⟩
      · rw [if_neg d, if_pos (show 0 < τ' 1 (5 + (i : Int)) - 1 by omega), bnd_some, ok2_some]
        exact ⟨rfl, rfl, g.tr m⟩
  · rintro x σ' y τ' ⟨rfl, rfl, g⟩
    have hM' : τ' 0 6 = M := (g.2.2.1.2 6 (by decide)).trans hM
    have a5 := g.1.1.1.2.2.2.2.1
    rw [fld_eq, fld_eq, a5, hM', if_neg (by omega), if_neg (by omega), ok2_some]
    show Ok2 (bnd (some ((0 : Int), σ')) k1) _ P
    rw [bnd_some]
    exact hk _ _ _ _ g
