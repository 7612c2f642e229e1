/-! a minute: rain, then calls before it -/
theorem rain2 {t : Int} {σ τ σ0 τ0 : St} (h0 : Mv t σ0 τ0 σ τ) {α β : Type} {k1 : Int → St → Rs α} {k2 : Int → St → Rs β} {P : α → St → β → St → Prop} (hk : ∀ r r' σ' τ', Mv t σ0 τ0 σ' τ' → Ok2 (k1 r σ') (k2 r' τ') P) : Ok2 (bnd (fX1_letItRain σ) k1) (bnd (bnd (itr FUEL (fun (x35 : Int × Int) s36 =>
fld s36 0 37 fun v38 =>
if x35.2 < w32 (4 * v38) then (
lod s36 19 128 x35.2 fun v40 =>
lod s36 1 161 0 fun v42 =>
if v40 = v42 then (
lod s36 19 128 (w32 (x35.2 + 1)) fun v46 =>
if v46 = 2 then (
lod s36 19 128 (w32 (x35.2 + 2)) fun v50 =>
lod s36 1 161 1 fun v52 =>
if v50 = v52 then (
lb (w32 (x35.2 + 4)) fun v56 =>
some (.inl (1, v56), s36))
else
lb (w32 (x35.2 + 4)) fun v54 =>
some (.inl (x35.1, v54), s36))
else
lb (w32 (x35.2 + 4)) fun v48 =>
some (.inl (x35.1, v48), s36))
else
lb (w32 (x35.2 + 4)) fun v44 =>
some (.inl (x35.1, v44), s36))
else
(some (.inr x35.1, s36) : Rs ((Int × Int) ⊕ Int))) (0, 0) τ) fun (y58 : Int) s59 =>
bnd (itr FUEL (fun (x61 : Int) s62 =>
fld s62 0 7 fun v64 =>
if x61 < v64 then (
if y58 = 0 then (
some (.inr (), s62))
else
bnd (fX12_doesSit x61 s62) fun r66 s67 =>
if r66 = 0 then (
some (.inl (w32 (x61 + 1)), s67))
else
bnd (fX12_sitsOn x61 s67) fun r69 s70 =>
lod s70 1 161 (w32 (17 + r69)) fun v72 =>
if 50 < v72 then (
bnd (fX12_getsUp x61 s70) fun r74 s75 =>
some (.inl (w32 (x61 + 1)), s75))
else
some (.inl (w32 (x61 + 1)), s70))
else
(some (.inr (), s62) : Rs (Int ⊕ Unit))) 0 s59) fun (y77 : Unit) s78 =>
(some (0, s78) : Rs Int)) k2) P := by
  have h := h0.1
  obtain ⟨N, hN⟩ : ∃ N : Nat, τ 0 37 = N := ⟨(τ 0 37).toNat, by have := h.2.2.2.1.1.2.2.1; omega⟩
  have N16 : N ≤ 16 := by have := h.2.2.2.1.1.2.2.2; omega
  unfold fX1_letItRain
  rw [bnd_assoc, bnd_assoc]
  refine ok2_bnd (ok2_for N (fun i x σ' y τ' => σ = σ' ∧ τ = τ' ∧ ∃ a : Int, x = (a, (i : Int)) ∧ y = (a, 4 * (i : Int))) (by omega) ⟨rfl, rfl, 0, rfl, rfl⟩ ?_ ?_)
  · rintro i x _ y _ hi ⟨rfl, rfl, a, rfl, rfl⟩
    have hE := h.2.2.2.1
    obtain ⟨⟨e0, e1, e2, e3⟩, hE⟩ := hE
    obtain ⟨⟨k0, k1, k2, k3⟩, v0, v1, v2, v3, v4⟩ := hE i (by omega) (by omega)
    simp only [Nat.reduceAdd] at e0 e1 k0 k1 k2 k3
    obtain ⟨⟨a1, a2, a3, a4, a5, a6⟩, ⟨b1, b2, b3, b4, b5, b6⟩, -, -⟩ := h.1
    have get : ∀ q : Int, 0 ≤ q → q < 4 → fX6_get 24 25 64 i q σ = some (σ 25 ((i : Int) * 4 + q), σ) := fun q q0 q1 => by
      rw [row_get (w := 4) e0 (by decide) (by rw [e1]; omega) (by decide), e1, if_pos (by omega)]
    have w4 := (wq4 (i := N) (by omega)).2.1
    obtain ⟨wi, _, w1, w2, _, wj⟩ := wq4 (i := i) (by omega)
    have l128 : ∀ {β : Type} {s : St} {q : Int} {g : Int → Rs β}, 0 ≤ q ∧ q < 128 → lod s 19 128 q g = g (s 19 q) := fun {β s q g} h => lod_eq (by omega)
    have g0 := get 0 (by decide) (by decide)
    rw [Int.add_zero] at g0
    dsimp only
    rw [row_size, bnd_some, e1, hN, fld_eq, hN, w4.o, if_pos (by omega), if_pos (by omega), g0, bnd_some, fld_eq, l128 (by omega), lod_eq (by decide), a3, wi.o, wj.o, w1.o, w2.o, k0, show 4 * (i : Int) = (i : Int) * 4 by omega]
    by_cases c : τ 19 ((i : Int) * 4) = τ 1 0
    · rw [if_pos c, if_pos c, get 2 (by decide) (by decide), bnd_some, fld_eq, a2, k2, l128 (by omega)]
      by_cases d : τ 19 ((i : Int) * 4 + 2) = τ 1 1
      · rw [if_pos d, bnd_some, if_neg (show ¬ ((1 : Int) = 0) by decide), get 1 (by decide) (by decide), bnd_some, k1]
        by_cases e : τ 19 ((i : Int) * 4 + 1) = 2
        · rw [if_pos (by omega), if_pos e, l128 (by omega), lod_eq (by decide), if_pos d, lb_eq, ok2_some]
          exact ⟨rfl, rfl, 1, rfl, rfl⟩
        · rw [if_neg (by omega), if_neg e, lb_eq, ok2_some]
          exact ⟨rfl, rfl, a, rfl, rfl⟩
      · rw [if_neg d, bnd_some, if_pos rfl]
        by_cases e : τ 19 ((i : Int) * 4 + 1) = 2
        · rw [if_pos e, l128 (by omega), lod_eq (by decide), if_neg d, lb_eq, ok2_some]
          exact ⟨rfl, rfl, a, rfl, rfl⟩
        · rw [if_neg e, lb_eq, ok2_some]
          exact ⟨rfl, rfl, a, rfl, rfl⟩
    · rw [if_neg c, if_neg c, bnd_some, if_pos rfl, lb_eq, ok2_some]
      exact ⟨rfl, rfl, a, rfl, rfl⟩
  · rintro x _ y _ ⟨rfl, rfl, f, rfl, rfl⟩
    have e1 := h.2.2.2.1.1.2.1
    simp only [Nat.reduceAdd] at e1
    have w4 := (wq4 (i := N) (by omega)).2.1
    dsimp only
    rw [row_size, bnd_some, e1, hN, fld_eq, hN, w4.o, if_neg (by omega), if_neg (by omega), ok2_some]
    show Ok2 (bnd _ _) (bnd _ _) P
    rw [bnd_assoc, bnd_assoc]
    by_cases f0 : f = 0
    · refine ok2_bnd (ok2_for 0 (fun _ x σ' y τ' => σ = σ' ∧ τ = τ' ∧ x = 0 ∧ y = 0) (by decide) ⟨rfl, rfl, rfl, rfl⟩ (fun i _ _ _ _ hi => absurd hi (Nat.not_lt_zero i)) ?_)
      rintro x _ y _ ⟨rfl, rfl, rfl, rfl⟩
      have fin : Ok2 (bnd (some ((0 : Int), σ)) k1) (bnd (some ((0 : Int), τ)) k2) P := by
        rw [bnd_some, bnd_some]
        exact hk _ _ _ _ h0
      rw [if_pos f0, fld_eq, if_pos f0]
      split
      · rw [ok2_some]
        exact fin
      · rw [ok2_some]
        exact fin
    · obtain ⟨M, hM⟩ : ∃ M : Nat, τ 0 7 = M := ⟨(τ 0 7).toNat, by have := h.1.2.1.2.2.1; omega⟩
      have M20 : M ≤ 20 := by have := h.1.2.1.2.2.2.1; omega
      refine ok2_bnd (ok2_for M (fun i x σ' y τ' => x = (i : Int) ∧ y = (i : Int) ∧ Mv t σ τ σ' τ') (by omega) ⟨rfl, rfl, Mv.rf h⟩ ?_ ?_)
      · rintro i x σ' y τ' hi ⟨rfl, rfl, g⟩
        have hM' : τ' 0 7 = M := (g.2.2.1.2 7 (by decide)).trans hM
        obtain ⟨⟨a1, a2, a3, a4, a5, a6⟩, ⟨b1, b2, b3, b4, b5, b6⟩, hp, hq⟩ := g.1.1
        obtain ⟨q1, q2, q3, q4, q5, q6, q7, q8, q9, q10, q11, q12, q13, q14, q15, q16, q17⟩ := hq i (by omega) (by omega)
        simp only [Nat.reduceAdd] at q3
        have wi := (wq4 (i := i) (by omega)).1
        have w41 := Hd.m (show w32 (41 + (i : Int)) = 41 + i from w32_sm (by omega))
        have ws := Hd.m (show w32 (τ' 1 (41 + (i : Int)) - 1) = τ' 1 (41 + (i : Int)) - 1 from w32_sm (by omega))
        unfold fX12_doesSit fX12_sitsOn
        rw [if_neg f0, fld_eq, fld_eq, a6, hM', if_pos (by omega), if_pos (by omega), lod_eq (by omega), hasPorch_eq, bnd_some, a5, q3, if_neg f0, w41.o, lod_eq (σ := τ') (k := 1) (by omega), wi.o]
        by_cases s : 0 < τ' 1 (41 + (i : Int))
        · obtain ⟨p1, p2, p3, p4, p5, _⟩ := hp (τ' 1 (41 + (i : Int)) - 1) (by omega) (by omega)
          simp only [Nat.reduceAdd] at p3
          rw [if_pos (show 0 ≤ τ' 1 (41 + (i : Int)) - 1 ∧ τ' 1 (41 + (i : Int)) - 1 < τ' 0 6 by omega), if_neg (show ¬ ((1 : Int) = 0) by decide), lod_eq (by omega), if_pos s, bnd_some, if_neg (show ¬ ((1 : Int) = 0) by decide), lod_eq (by omega), bnd_some, ws.o, w32_sm (x := 17 + (τ' 1 (41 + (i : Int)) - 1)) (by omega), lod_eq (by omega), p3]
          by_cases d : 50 < τ' 1 (17 + (τ' 1 (41 + (i : Int)) - 1))
          · rw [if_pos d, if_pos d]
            refine ok2_bnd (ok2_mono (rise2 g.1 (p := i) (by omega) (by omega)) ?_)
            rintro _ σ2 _ τ2 m
            rw [ok2_some]
            exact ⟨rfl, rfl, g.tr m⟩
          · rw [if_neg d, if_neg d, ok2_some]
            exact ⟨rfl, rfl, g⟩
        · rw [if_neg (show ¬ (0 ≤ τ' 1 (41 + (i : Int)) - 1 ∧ τ' 1 (41 + (i : Int)) - 1 < τ' 0 6) by omega), if_pos rfl, if_neg s, bnd_some, if_pos rfl, ok2_some]
          exact ⟨rfl, rfl, g⟩
      · rintro x σ' y τ' ⟨rfl, rfl, g⟩
        have hM' : τ' 0 7 = M := (g.2.2.1.2 7 (by decide)).trans hM
        have a6 := g.1.1.1.2.2.2.2.2
        rw [if_neg f0, fld_eq, fld_eq, a6, hM', if_neg (by omega), if_neg (by omega), ok2_some]
        show Ok2 (bnd (some ((0 : Int), σ')) k1) (bnd (some ((0 : Int), τ')) k2) P
        rw [bnd_some, bnd_some]
        exact hk _ _ _ _ (h0.tr g)
theorem calls2 {t : Int} {σ τ : St} (h : MQm t σ τ) {α β : Type} {k1 : Int → St → Rs α} {k2 : Int → St → Rs β} {P : α → St → β → St → Prop} (hk : ∀ r r' σ' τ', Mv t σ τ σ' τ' → Ok2 (k1 r σ') (k2 r' τ') P) : Ok2 (bnd (fX1_followCalls σ) fun _ s11 => bnd (fX1_letItRain s11) k1) (bnd (fX12_callsAndRain τ) k2) P := by
  obtain ⟨N, hN⟩ : ∃ N : Nat, τ 0 35 = N := ⟨(τ 0 35).toNat, by have := h.2.2.1.1.2.2.1; omega⟩
  have N16 : N ≤ 16 := by have := h.2.2.1.1.2.2.2; omega
  unfold fX1_followCalls fX12_callsAndRain
  rw [bnd_assoc, bnd_assoc]
  refine ok2_bnd (ok2_for N (fun i x σ' y τ' => x = (i : Int) ∧ y = 4 * (i : Int) ∧ Mv t σ τ σ' τ') (by omega) ⟨rfl, rfl, Mv.rf h⟩ ?_ ?_)
  · rintro i x σ' y τ' hi ⟨rfl, rfl, g⟩
    have hN' : τ' 0 35 = N := (g.2.2.1.2 35 (by decide)).trans hN
    have hC := g.1.2.2.1
    obtain ⟨⟨e0, e1, e2, e3⟩, hj, hC⟩ := hC
    obtain ⟨v0, v1, v2, v3⟩ := hC i (by omega) (by omega)
    simp only [Nat.reduceAdd] at e0 e1 hj
    have hR := g.1.1
    obtain ⟨⟨a1, a2, a3, a4, a5, a6⟩, ⟨b1, b2, b3, b4, b5, b6⟩, hp, hq⟩ := hR
    obtain ⟨q1, q2, q3, q4, q5, q6, q7, q8, q9, q10, q11, q12, q13, q14, q15, q16, q17⟩ := hq _ v0 v1
    simp only [Nat.reduceAdd] at q3
    have get : ∀ q : Int, 0 ≤ q → q < 4 → fX6_get 22 23 64 i q σ' = some (τ' 18 ((i : Int) * 4 + q), σ') := fun q q0 q1 => by
      rw [row_get (w := 4) e0 (by decide) (by rw [e1]; omega) (by decide), e1, if_pos (by omega), hj _ (by omega) (by omega)]
    have w4 := (wq4 (i := N) (by omega)).2.1
    obtain ⟨wi, _, w1, w2, w3, wj⟩ := wq4 (i := i) (by omega)
    have l128 : ∀ {β : Type} {s : St} {q : Int} {g : Int → Rs β}, 0 ≤ q ∧ q < 128 → lod s 18 128 q g = g (s 18 q) := fun {β s q g} h => lod_eq (by omega)
    have g0 := get 0 (by decide) (by decide)
    rw [Int.add_zero] at g0
    rw [row_size, bnd_some, e1, hN', fld_eq, hN', w4.o, if_pos (by omega), if_pos (by omega), get 1 (by decide) (by decide), bnd_some, fld_eq, w1.o, l128 (by omega), lod_eq (by decide), a2, wi.o, wj.o, w2.o, w3.o, show 4 * (i : Int) = (i : Int) * 4 by omega]
    by_cases c : τ' 18 ((i : Int) * 4 + 1) = τ' 1 1
    · rw [if_pos c, if_pos c, g0, bnd_some, get 2 (by decide) (by decide), bnd_some, hasPerson_eq, bnd_some, a6, if_pos (And.intro v0 v1), if_neg (show ¬ ((1 : Int) = 0) by decide), lod_eq (by omega), q3, l128 (by omega), l128 (by omega)]
      refine ok2_r (ok_mono (canSit_eq g.1 v0 v1 v2 v3) ?_)
      rintro r _ ⟨rfl, rfl⟩
      by_cases s : τ' 1 (41 + τ' 18 ((i : Int) * 4)) = 0
      · rw [if_pos (show τ' 1 (41 + τ' 18 ((i : Int) * 4)) - 1 = -1 by omega), bnd_some, if_neg (show ¬ ((1 : Int) = 0) by decide), freeChair_eq g.1 v2 v3, bnd_some]
        by_cases d : σ' 8 (τ' 18 ((i : Int) * 4 + 2)) < σ' 4 (τ' 18 ((i : Int) * 4 + 2))
        · rw [if_pos d, if_neg (show ¬ ((1 : Int) = 0) by decide), get 3 (by decide) (by decide), bnd_some, if_pos (And.intro s d), if_neg (show ¬ ((1 : Int) = 0) by decide), l128 (by omega), l128 (by omega), l128 (by omega)]
          refine ok2_bnd (ok2_mono (seat2 g.1 v0 v1 v2 v3 s) ?_)
          rintro _ σ2 _ τ2 m
          rw [lb_eq, ok2_some]
          exact ⟨rfl, rfl, g.tr m⟩
        · rw [if_neg d, if_pos rfl, if_neg (show ¬ (τ' 1 (41 + τ' 18 ((i : Int) * 4)) = 0 ∧ σ' 8 (τ' 18 ((i : Int) * 4 + 2)) < σ' 4 (τ' 18 ((i : Int) * 4 + 2))) from fun x => d x.2), if_pos rfl, lb_eq, ok2_some]
          exact ⟨rfl, rfl, g⟩
      · rw [if_neg (show ¬ τ' 1 (41 + τ' 18 ((i : Int) * 4)) - 1 = -1 by omega), bnd_some, if_pos rfl, if_neg (show ¬ (τ' 1 (41 + τ' 18 ((i : Int) * 4)) = 0 ∧ σ' 8 (τ' 18 ((i : Int) * 4 + 2)) < σ' 4 (τ' 18 ((i : Int) * 4 + 2))) from fun x => s x.1), if_pos rfl, lb_eq, ok2_some]
        exact ⟨rfl, rfl, g⟩
    · rw [if_neg c, if_neg c, lb_eq, ok2_some]
      exact ⟨rfl, rfl, g⟩
  · rintro x σ' y τ' ⟨rfl, rfl, g⟩
    have hN' : τ' 0 35 = N := (g.2.2.1.2 35 (by decide)).trans hN
    have e1 := g.1.2.2.1.1.2.1
    simp only [Nat.reduceAdd] at e1
    have w4 := (wq4 (i := N) (by omega)).2.1
    rw [row_size, bnd_some, e1, hN', fld_eq, hN', w4.o, if_neg (by omega), if_neg (by omega), ok2_some]
    show Ok2 (bnd (some ((0 : Int), σ')) _) _ _
    rw [bnd_some]
    exact rain2 g hk
