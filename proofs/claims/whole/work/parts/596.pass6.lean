/-! a minute: one speaks -/
theorem up_comm {σ : St} {k1 k2 : Nat} {i1 v1 i2 v2 : Int} (h : k1 ≠ k2) : up (up σ k1 i1 v1) k2 i2 v2 = up (up σ k2 i2 v2) k1 i1 v1 := by
  funext k i
  simp only [up_g]
  by_cases a : k = k2 ∧ i = i2
  · rw [if_pos a, if_neg (fun b => h (b.1.symm.trans a.1)), if_pos a]
  · rw [if_neg a, if_neg a]
theorem write_up {t : Int} {σ τ : St} (h : MQm t σ τ) {a b c o v : Int} : ∃ σ', fX1_write a b c σ = some (0, σ') ∧ fX1_write a b c (up σ 15 o v) = some (0, up σ' 15 o v) ∧ σ' 15 = σ 15 := by
  obtain ⟨_, _, _, _, _, hB, _, _, _⟩ := h
  obtain ⟨⟨w0, w1, w2, w3⟩, w4⟩ := hB
  unfold fX1_write
  simp only [fld_eq]
  have e : ∀ k i, k ≠ 15 → up σ 15 o v k i = σ k i := fun k i hk => by rw [up_ne hk]
  rw [e 152 4 (by decide), e 3 2 (by decide), e 3 1 (by decide)]
  by_cases c0 : σ 152 4 = 0
  · rw [if_pos c0, if_pos c0]
    have ha := row_add (σ := σ) (ro := 50) (rc := 51) (rn := 750) (a := σ 3 2) (b := σ 3 1) (c := a) (d := b) (e := c) (by decide) w0 (by omega) (by omega) (by omega) (by omega) (by omega) (by omega)
    have hb := row_add (σ := up σ 15 o v) (ro := 50) (rc := 51) (rn := 750) (a := σ 3 2) (b := σ 3 1) (c := a) (d := b) (e := c) (w := 5) (by decide) (by rw [e 50 0 (by decide)]; exact w0) (by rw [e 50 2 (by decide)]; omega) (by decide) (by rw [e 50 2 (by decide)]; omega) (by rw [e 50 2 (by decide)]; omega) (by decide) (by rw [e 50 2 (by decide)]; omega)
    rw [e 50 2 (by decide)] at hb
    simp only [rput, cup, Int.reduceLT, if_true, if_false] at ha hb
    rw [ha, hb]
    by_cases c1 : (750 : Nat) < σ 50 2 * 5 + 5
    · rw [if_pos c1, if_pos c1, bnd_some, bnd_some]
      exact ⟨_, rfl, rfl, rfl⟩
    · rw [if_neg c1, if_neg c1, bnd_some, bnd_some]
      refine ⟨_, rfl, ?_, rfl⟩
      rw [up_comm (k1 := 51) (k2 := 15) (by decide), up_comm (k1 := 51) (k2 := 15) (by decide), up_comm (k1 := 51) (k2 := 15) (by decide), up_comm (k1 := 51) (k2 := 15) (by decide), up_comm (k1 := 51) (k2 := 15) (by decide), up_comm (k1 := 50) (k2 := 15) (by decide)]
  · rw [if_neg c0, if_neg c0]
    exact ⟨_, rfl, rfl, rfl⟩
theorem bnx_bnd {α β γ : Type} {h : Rs α} {k : α → St → Rs (β ⊕ γ)} {g : β → St → Rs γ} : bnx (bnd h k) g = bnd h fun x s => bnx (k x s) g := by
  cases h with
  | none => rfl
  | some v => rfl
theorem heard2 {t : Int} {σ τ : St} (h : MQm t σ τ) {o : Int} (c1 : 0 ≤ o ∧ o < τ 0 7) : σ 15 o = τ 1 (121 + o) ∧ Mv t σ τ (up σ 15 o (w32 (τ 1 (121 + o) + 1))) (up τ 1 (121 + o) (w32 (τ 1 (121 + o) + 1))) := by
  have q7 := (h.1.2.2.2 o c1.1 c1.2).2.2.2.2.2.2.1
  exact ⟨q7, Mv.nb h (by repeat (first | exact Fr.rf | exact fx | refine Fr.up ?_ (by decide))) (by repeat (first | exact Fm.rf | exact fm | exact fm.mono (by decide) (by decide) | refine Fm.u0 ?_ (by decide) | refine Fm.up ?_ (by decide) (by decide))) (by (simp only [up_g, Nat.reduceAdd, true_and, and_true, false_and, and_false, Nat.reduceEqDiff, if_false, if_true]) <;> (repeat (first | rw [if_neg (by omega)] | rw [if_pos (by omega)])) <;> (first | assumption | omega)) (h.1.hear c1.1 c1.2)⟩
theorem spoken2 {t : Int} {σ τ : St} (h : MQm t σ τ) {p : Int} (c1 : 0 ≤ p ∧ p < τ 0 7) (hs : 0 < τ 1 (41 + p)) {q : Int} (hqq : τ 1 (41 + p) - 1 = q) : Ok2 (lod σ 14 20 p fun v9 =>
sto σ 14 20 p (w32 (v9 + 1)) fun s11 =>
bnd (itr FUEL (fun (x12 : Int × Int) s13 =>
fld s13 3 5 fun v15 =>
if x12.2 < v15 then (
if x12.2 = p then (
some (.inl (x12.1, w32 (x12.2 + 1)), s13))
else
bnd (fX1_hearsNow x12.2 p q s13) fun r17 s18 =>
if r17 = 0 then (
some (.inl (x12.1, w32 (x12.2 + 1)), s18))
else
some (.inl (w32 (x12.1 + 1), w32 (x12.2 + 1)), s18))
else
(some (.inr x12.1, s13) : Rs ((Int × Int) ⊕ Int))) (0, 0) s11) fun (y20 : Int) s21 =>
bnd (fX1_write 1 p y20 s21) fun r23 s24 =>
(some (1, s24) : Rs Int)) (fX12_isSpoken p τ) fun r σ' _ τ' => r = 1 ∧ Mv t σ τ σ' τ' := by
  obtain ⟨_, _, q3, _, _, q6, q7, q8, q9, q10, _⟩ := h.1.2.2.2 p c1.1 c1.2
  have hb := h.1.2.1
  simp only [Nat.reduceAdd] at q3 q6
  have w41 := Hd.m (show w32 (41 + p) = 41 + p from w32_sm (by omega))
  have w101 := Hd.m (show w32 (101 + p) = 101 + p from w32_sm (by omega))
  have ws := Hd.m (show w32 (τ 1 (41 + p) - 1) = q from (by rw [hqq]; exact w32_sm (by omega)))
  have cq : 0 ≤ q ∧ q < τ 0 6 := by omega
  unfold fX12_isSpoken fX12_sitsOn
  rw [lod_eq (by omega), sto_eq (by omega), w41.o, lod_eq (by omega), bnd_some, ws.o, w101.o, lod_eq (by omega), sto_eq (by omega), q6]
  have g0 : Mv t σ τ (up σ 14 p (w32 (τ 1 (101 + p) + 1))) (up τ 1 (101 + p) (w32 (τ 1 (101 + p) + 1))) := Mv.nb h (by repeat (first | exact Fr.rf | exact fx | refine Fr.up ?_ (by decide))) (by repeat (first | exact Fm.rf | exact fm | exact fm.mono (by decide) (by decide) | refine Fm.u0 ?_ (by decide) | refine Fm.up ?_ (by decide) (by decide))) (by (simp only [up_g, Nat.reduceAdd, true_and, and_true, false_and, and_false, Nat.reduceEqDiff, if_false, if_true]) <;> (repeat (first | rw [if_neg (by omega)] | rw [if_pos (by omega)])) <;> (first | assumption | omega)) (h.1.said c1.1 c1.2)
  have z0 : up σ 14 p (w32 (τ 1 (101 + p) + 1)) 11 = σ 11 := rfl
  generalize up σ 14 p (w32 (τ 1 (101 + p) + 1)) = σ0 at g0 z0 ⊢
  generalize up τ 1 (101 + p) (w32 (τ 1 (101 + p) + 1)) = τ0 at g0 ⊢
  obtain ⟨M, hM⟩ : ∃ M : Nat, τ 0 7 = M := ⟨(τ 0 7).toNat, by omega⟩
  refine ok2_bnd (ok2_for M (fun i x σ' y τ' => (∃ n : Int, x = (n, (i : Int)) ∧ y = (n, (i : Int))) ∧ Mv t σ τ σ' τ' ∧ σ' 11 = σ 11) (by omega) ⟨⟨0, rfl, rfl⟩, g0, z0⟩ ?_ ?_)
  · rintro i x σ' y τ' hi ⟨⟨n, rfl, rfl⟩, g, z⟩
    have hM' : τ' 0 7 = M := (g.2.2.1.2 7 (by decide)).trans hM
    have h6' : τ' 0 6 = τ 0 6 := g.2.2.1.2 6 (by decide)
    obtain ⟨⟨a1, a2, a3, a4, a5, a6⟩, ⟨b1, b2, b3, b4, b5, b6⟩, hp, hq⟩ := g.1.1
    have ci : 0 ≤ (i : Int) ∧ (i : Int) < τ' 0 7 := by omega
    obtain ⟨_, _, u3, _, _, _, u7, _, u9, u10, _⟩ := hq i ci.1 ci.2
    simp only [Nat.reduceAdd] at u3 u7
    have wi := (wq4 (i := i) (by omega)).1
    dsimp only
    rw [fld_eq, fld_eq, a6, hM', if_pos (show (i : Int) < (M : Int) by omega), if_pos (show (i : Int) < (M : Int) by omega)]
    by_cases e : (i : Int) = p
    · rw [if_pos e, if_pos e, ok2_some, wi.o]
      exact ⟨⟨n, rfl, rfl⟩, g, z⟩
    have v41 := Hd.m (show w32 (41 + (i : Int)) = 41 + i from w32_sm (by omega))
    have v121 := Hd.m (show w32 (121 + (i : Int)) = 121 + i from w32_sm (by omega))
    have vs := Hd.m (show w32 (τ' 1 (41 + (i : Int)) - 1) = τ' 1 (41 + (i : Int)) - 1 from w32_sm (by omega))
    unfold fX1_hearsNow fX12_doesSit
    rw [if_neg e, if_neg e, lod_eq (by omega), u3, v41.o, lod_eq (by omega)]
    by_cases s : 0 < τ' 1 (41 + (i : Int))
    · rw [if_neg (show ¬ τ' 1 (41 + (i : Int)) - 1 = -1 by omega), if_pos s, bnd_some, if_neg (show ¬ ((1 : Int) = 0) by decide), lod_eq (by omega), bnd_some, vs.o]
      by_cases d : τ' 1 (41 + (i : Int)) - 1 = q
      · obtain ⟨f1, f2⟩ := heard2 g.1 ci
        rw [if_pos d, bnx_inl, if_pos d, bnd_some, if_pos rfl, bnx_inl, lod_eq (by omega), sto_eq (by omega), bnd_some, if_neg (show ¬ ((1 : Int) = 0) by decide), v121.o, lod_eq (by omega), sto_eq (by omega), lb_eq, if_pos rfl, ok2_some, f1, wi.o]
        exact ⟨⟨_, rfl, rfl⟩, g.tr f2, z⟩
      · obtain ⟨⟨y0, y1, y2, y3⟩, y4, y5⟩ := g.1.2.2.2.2.1
        simp only [Nat.reduceAdd] at y0 y1 y4 y5
        obtain ⟨L, hL⟩ : ∃ L : Nat, τ' 0 39 = L := ⟨(τ' 0 39).toNat, by omega⟩
        have ft := y5 q (τ' 1 (41 + (i : Int)) - 1) (by omega) (by omega) (by omega) (by omega)
        have f0 := fm_pos (C := σ' 27) (a := q) (b := τ' 1 (41 + (i : Int)) - 1) (n := L) fun k hk => (y4 k (by omega) (by omega)).2.2.2.2.2.1
        rw [hL, Int.toNat_natCast] at ft
        have wb := Hd.m (show w32 (w32 (12 * q) + (τ' 1 (41 + (i : Int)) - 1)) = 12 * q + (τ' 1 (41 + (i : Int)) - 1) from (by rw [w32_l, w32_sm (by omega)]))
        have cf := c_feet (σ := σ') (a := q) (b := τ' 1 (41 + (i : Int)) - 1) (n := L) y0 (by rw [y1, hL]) (by omega) fun k hk => (y4 k (by omega) (by omega)).2.2.2.2.2.1
        obtain ⟨fv, σf, ef, rfl, rfl⟩ := cf
        unfold fX12_isBeside
        rw [if_neg d, if_neg d, bnd_some, if_neg (show ¬ ((1 : Int) = 0) by decide), lod_eq (by omega), bnd_some, vs.o, wb.o, lod_eq (by omega), isIn_eq, bnd_some, bnd_some, ef, bnd_some, ft]
        generalize fm L (σ' 27) q (τ' 1 (41 + (i : Int)) - 1) = F at *
        by_cases b : 1 ≤ F ∧ F ≤ 10
        · rw [if_neg (show ¬ F = 0 by omega), if_neg (show ¬ F = -1 by omega), if_neg (show ¬ 10 < F by omega), if_pos b, if_neg (show ¬ ((1 : Int) = 0) by decide)]
          simp only [bnx_bnd, bnd_assoc]
          refine heardraw2 g.1 ci (by omega) ?_
          intro r σ2 τ2 m z2
          have ci2 : 0 ≤ (i : Int) ∧ (i : Int) < τ2 0 7 := by rw [m.2.2.1.2 7 (by decide)]; exact ci
          by_cases r0 : r = 0
          · rw [if_pos r0, if_pos r0, bnx_inr, bnx_inr, bnd_some, if_pos rfl, ok2_some, wi.o]
            exact ⟨⟨n, rfl, rfl⟩, g.tr m, z2.trans z⟩
          · obtain ⟨f1, f2⟩ := heard2 m.1 ci2
            obtain ⟨σ3, e1, e2, e3⟩ := write_up m.1 (a := 2) (b := i) (c := p) (o := i) (v := w32 (τ2 1 (121 + (i : Int)) + 1))
            obtain ⟨_, σ4, ex, _, τ4, ey, g4, gx, _⟩ := write2 f2.1 (a := 2) (b := i) (c := p)
            rw [e2] at ex
            cases ex
            have z4 : σ3 11 = σ2 11 := gx 11 (by decide) (by decide)
            rw [if_neg r0, if_neg r0, e1, bnd_some, bnx_inl, bnx_inl, v121.o, lod_eq (by omega), sto_eq (by omega), bnd_some, if_neg (show ¬ ((1 : Int) = 0) by decide), lod_eq (by omega), sto_eq (by omega), lb_eq, if_neg (show ¬ ((1 : Int) = 0) by decide), ey, bnd_some, ok2_some, e3, f1, wi.o]
            exact ⟨⟨_, rfl, rfl⟩, g.tr (m.tr (f2.tr g4)), z4.trans (z2.trans z)⟩
        · rw [if_neg b, if_pos (show (0 : Int) = 0 from rfl), bnx_inr]
          by_cases F0 : F = 0
          · rw [if_pos F0, if_pos rfl, bnx_inr, bnd_some, if_pos rfl, ok2_some, wi.o]
            exact ⟨⟨n, rfl, rfl⟩, g, z⟩
          · rw [if_neg F0, if_neg (show ¬ F = -1 by omega), if_pos (show 10 < F by omega), bnx_inr, bnd_some, if_pos rfl, ok2_some, wi.o]
            exact ⟨⟨n, rfl, rfl⟩, g, z⟩
    · rw [if_pos (show τ' 1 (41 + (i : Int)) - 1 = -1 by omega), bnd_some, if_pos rfl, if_neg s, bnd_some, if_pos rfl, ok2_some, wi.o]
      exact ⟨⟨n, rfl, rfl⟩, g, z⟩
  · rintro x σ' y τ' ⟨⟨n, rfl, rfl⟩, g, z⟩
    have hM' : τ' 0 7 = M := (g.2.2.1.2 7 (by decide)).trans hM
    have a6 := g.1.1.1.2.2.2.2.2
    dsimp only
    rw [fld_eq, fld_eq, a6, hM', if_neg (by omega), if_neg (by omega), ok2_some]
    show Ok2 (bnd _ _) (bnd _ _) _
    refine ok2_bnd (ok2_mono (write2 g.1) ?_)
    rintro _ σ2 _ τ2 ⟨g2, _⟩
    rw [ok2_some]
    exact ⟨rfl, g.tr g2⟩
theorem speak2 {t : Int} {σ τ : St} (h : MQm t σ τ) {p : Int} (c1 : 0 ≤ p ∧ p < τ 0 7) {α β : Type} {K0 K1 : St → Rs α} {M0 M1 : St → Rs β} {P : α → St → β → St → Prop} (h0 : ∀ σ' τ', Mv t σ τ σ' τ' → Ok2 (K0 σ') (M0 τ') P) (h1 : ∀ σ' τ', Mv t σ τ σ' τ' → Ok2 (K1 σ') (M1 τ') P) :
    Ok2 (bnd (fX1_speaksNow p σ) fun r s => if r = 0 then K0 s else K1 s) (bnd (fX12_doesSit p τ) fun r17 s18 => if r17 = 0 then M0 s18 else bnd (fX12_speaksOf p s18) fun r20 s21 => bnd (fX12_happens r20 s21) fun r23 s24 => if r23 = 0 then M0 s24 else bnd (fX12_isSpoken p s24) fun _ s27 => M1 s27) P := by
  obtain ⟨_, _, q3, _, _, _, _, _, q9, q10, _⟩ := h.1.2.2.2 p c1.1 c1.2
  have hb := h.1.2.1
  simp only [Nat.reduceAdd] at q3
  have w41 := Hd.m (show w32 (41 + p) = 41 + p from w32_sm (by omega))
  unfold fX1_speaksNow fX12_doesSit
  rw [lod_eq (by omega), q3, w41.o, lod_eq (by omega)]
  by_cases s : 0 < τ 1 (41 + p)
  · rw [if_neg (show ¬ τ 1 (41 + p) - 1 = -1 by omega), if_pos s, bnd_some, if_neg (show ¬ ((1 : Int) = 0) by decide)]
    simp only [bnd_assoc]
    refine speakdraw2 h c1 s ?_
    intro r σ2 τ2 m z2
    by_cases r0 : r = 0
    · rw [if_pos r0, if_pos r0, bnd_some, if_pos rfl]
      exact h0 _ _ m
    · have c2 : 0 ≤ p ∧ p < τ2 0 7 := by rw [m.2.2.1.2 7 (by decide)]; exact c1
      have q3' := (m.1.1.2.2.2 p c2.1 c2.2).2.2.1
      simp only [Nat.reduceAdd] at q3'
      rw [z2, q3] at q3'
      rw [if_neg r0, if_neg r0]
      refine ok2_bnd (ok2_mono (spoken2 m.1 c2 (by omega) (q := τ 1 (41 + p) - 1) (by omega)) ?_)
      rintro r σ3 _ τ3 ⟨rfl, m2⟩
      rw [if_neg (show ¬ ((1 : Int) = 0) by decide)]
      exact h1 _ _ (m.tr m2)
  · rw [if_pos (show τ 1 (41 + p) - 1 = -1 by omega), bnd_some, if_pos rfl, if_neg s, bnd_some, if_pos rfl]
    exact h0 _ _ (Mv.rf h)
