/-! LAST: the class -/
/-- the last one of those that it comes to -/
def BS (n : Nat) (V : Int → Int) (b : Int) : Prop := (0 ≤ b ∧ b < n) ∧ V b < 100000000 ∧ ∀ j : Int, 0 ≤ j → j < (n : Int) → V j < 100000000 → V j ≤ V b ∧ (V j = V b → b ≤ j)
theorem BS.uniq {n : Nat} {V V' : Int → Int} {b b' : Int} (h : BS n V b) (h' : BS n V' b') (e : ∀ j : Int, 0 ≤ j → j < (n : Int) → V j = V' j) : b = b' := by
  obtain ⟨h1, h2, h3⟩ := h
  obtain ⟨k1, k2, k3⟩ := h'
  have e1 := e b h1.1 h1.2
  have e2 := e b' k1.1 k1.2
  have a := h3 b' k1.1 k1.2 (by omega)
  have c := k3 b h1.1 h1.2 (by omega)
  have := a.2
  have := c.2
  omega
def gR (V : Int → Int) (j : Int) : Int := if V j < 100000000 then 1 else 0
theorem gR_cong {V V' : Int → Int} {n : Nat} (e : ∀ j : Int, 0 ≤ j → j < (n : Int) → V j = V' j) : cP n (gR V) 1 = cP n (gR V') 1 := cP_cong fun k hk => by
  unfold gR
  rw [e k (by omega) (by omega)]
theorem cP_more {f : Int → Int} {v : Int} {n : Nat} (h : ∀ k : Nat, n ≤ k → k < 12 → f k ≠ v) : ∀ m : Nat, n ≤ m → m ≤ 12 → cP m f v = cP n f v := by
  intro m
  induction m with
  | zero => intro h1 _; rw [show n = 0 by omega]
  | succ m ih =>
    intro h1 h2
    by_cases e : n = m + 1
    · rw [e]
    · rw [cP, ih (by omega) (by omega), if_neg (h m (by omega) (by omega)), Int.add_zero]
theorem wd_pos {C : Int → Int} {L n : Nat} {s : Int} (hw : wkOk C L n) (hs : 0 ≤ s ∧ s < n) : ∀ {k : Nat} {v d : Int}, wd C L s k v d → v = s ∨ 1 ≤ d := by
  intro k
  cases k with
  | zero => rintro v d ⟨e, _⟩; exact Or.inl e
  | succ k =>
    rintro v d ⟨u, d', w, h1, h2, e⟩
    have := wd_nn hw hs h1
    have := (hw _ _ _ h2).2.2.1
    exact Or.inr (by omega)
theorem c_last {L n : Nat} {s w : Int} {σ : St} (w0 : σ 26 0 = 4) (w1 : σ 26 2 = L) (hL : L ≤ 16) (hn : n ≤ 12) (hw : wkOk (σ 27) L n) (hs : 0 ≤ s ∧ s < n) : Ok (fX4_lastToHear s w σ) fun v σ' => Fr [161] σ σ' ∧ ∃ V b, LV (σ 27) L n s 100000 V ∧ (∀ x : Int, 0 ≤ x → x < (n : Int) → sett (σ 27) L s V x) ∧ BS n V b ∧ v = if w = 0 then b else if w = 1 then V b else cP n (gR V) 1 := by
  unfold fX4_lastToHear
  rw [within_eq, bnd_some, if_pos (show 0 ≤ s ∧ s ≤ 11 by omega), if_neg (show ¬ ((1 : Int) = 0) by decide), fill_eq (by decide), bnd_some, sto_eq (by omega), ko_bnd]
  have f0 : Fr [161] σ (up (fil σ 161 12 (-1)) 161 s 0) := (Fr.rf.fil (by decide)).up (by decide)
  have d0 : ∀ x : Int, 0 ≤ x → x < 12 → up (fil σ 161 12 (-1)) 161 s 0 161 x = if x = s then 0 else -1 := fun x x0 x1 => by
    simp only [up_g, true_and, and_true, false_and, and_false, Nat.reduceEqDiff, if_false, if_true]
    rw [fil_at (by omega)]
  have x0 : wXb n 0 (up (fil σ 161 12 (-1)) 161 s 0) := fun x x0 x1 => by
    rw [d0 x x0 x1]
    split
    · exact ⟨Or.inr ⟨by decide, by decide⟩, fun _ => by omega⟩
    · exact ⟨Or.inl rfl, fun _ => rfl⟩
  have e0 : ∀ x : Int, 0 ≤ x → x < 12 → vX (up (fil σ 161 12 (-1)) 161 s 0) x = if x = s then 0 else 100000000 := fun x x0 x1 => by
    unfold vX
    rw [d0 x x0 x1]
    by_cases e : x = s
    · rw [if_pos e, if_neg (by decide), if_pos e]
    · rw [if_neg e, if_pos rfl, if_neg e]
  have v0 : LV (σ 27) L n s 0 (vX (up (fil σ 161 12 (-1)) 161 s 0)) := fun x y0 y1 => by
    rw [e0 x y0 (by omega)]
    by_cases e : x = s
    · rw [if_pos e]
      exact Or.inr ⟨by decide, by decide, 0, e, rfl⟩
    · rw [if_neg e]
      exact Or.inl rfl
  have r0 : RD (σ 27) L n s 0 (vX (up (fil σ 161 12 (-1)) 161 s 0)) := ⟨by rw [e0 s hs.1 (by omega), if_pos rfl]; decide, Or.inl (Nat.zero_le _)⟩
  generalize up (fil σ 161 12 (-1)) 161 s 0 = σ0 at *
  clear d0 e0
  refine for_ok 12 (fun r x σ' => x = (r : Int) ∧ Fr [161] σ σ' ∧ wXb n (3168 * r) σ' ∧ LV (σ 27) L n s (3168 * r) (vX σ') ∧ RD (σ 27) L n s r (vX σ')) (by decide) ⟨rfl, f0, x0, v0.cong (by omega) (fun _ _ _ => rfl), r0⟩ ?_ ?_
  · rintro r x σ1 hr ⟨rfl, fx, x1, v1, r1⟩
    have e27 : σ1 27 = σ 27 := fx 27 (by decide)
    rw [ko_t (by omega), ko_bnd]
    refine ok_mono (c_round (s := s) (B := 3168 * (r : Int)) (by rw [fx 26 (by decide)]; exact w0) (by rw [fx 26 (by decide)]; exact w1) hL hn (by rw [e27]; exact hw) (by omega) x1 (by rw [e27]; exact v1)) ?_
    rintro _ σ2 ⟨f2, x2, v2, l2, c2⟩
    rw [e27] at v2 c2
    rw [ko_some, ko_jl, w32_nat (by omega)]
    exact ⟨rfl, fx.tr f2, fun x y0 y1 => ⟨by have := (x2 x y0 y1).1; omega, (x2 x y0 y1).2⟩, v2.cong (by omega) fun _ _ _ => rfl, r1.next hw hs l2 c2⟩
  · rintro x σ1 ⟨rfl, fx, x1, v1, r1⟩
    rw [ko_f (by decide), ko_some, ko_jr, ko_bnd]
    have hset : ∀ x : Int, 0 ≤ x → x < (n : Int) → sett (σ 27) L s (vX σ1) x := fun x y0 y1 => r1.all hn y0 y1
    have hV : ∀ x : Int, 0 ≤ x → x < 12 → (σ1 161 x = -1 ∧ vX σ1 x = 100000000) ∨ (0 ≤ σ1 161 x ∧ σ1 161 x ≤ 100000 ∧ vX σ1 x = σ1 161 x ∧ x < n) := fun x y0 y1 => by
      obtain ⟨q1, q2⟩ := x1 x y0 y1
      unfold vX
      rcases q1 with q1 | q1
      · rw [if_pos q1]
        exact Or.inl ⟨q1, rfl⟩
      · rw [if_neg (by omega)]
        exact Or.inr ⟨q1.1, by omega, rfl, by omega⟩
    have hs0 : σ1 161 s = 0 := by
      have h0 := r1.1
      rcases hV s hs.1 (by omega) with ⟨_, q⟩ | ⟨q1, _, q2, _⟩ <;> omega
    have g1 : ∀ j : Int, 0 ≤ j → j < 12 → gR (vX σ1) j = if σ1 161 j = -1 then 0 else 1 := fun j j0 j1 => by
      unfold gR
      rcases hV j j0 j1 with ⟨q1, q2⟩ | ⟨q1, q2, q3, _⟩
      · rw [if_neg (by omega), if_pos q1]
      · rw [if_pos (by omega), if_neg (by omega)]
    have hz : ∀ j : Int, 0 ≤ j → j < 12 → σ1 161 j = 0 → j = s := fun j j0 j1 e => by
      rcases hV j j0 j1 with ⟨q, _⟩ | ⟨_, _, q3, q4⟩
      · omega
      · rcases v1 j j0 q4 with q | ⟨_, _, k, q⟩
        · omega
        · rcases wd_pos hw hs q with q | q
          · exact q
          · omega
    refine for_ok 12 (fun i x σ' => σ1 = σ' ∧ ∃ b : Int, x = (b, cP i (gR (vX σ1)) 1, (i : Int)) ∧ (0 ≤ b ∧ b < 12 ∧ 0 ≤ σ1 161 b ∧ (b = s ∨ b < i)) ∧ ∀ j : Int, 0 ≤ j → j < 12 → (j < i → σ1 161 j ≤ σ1 161 b ∧ (σ1 161 j = σ1 161 b → b ≤ j))) (by decide) ⟨rfl, s, rfl, by omega, fun j j0 _ j1 => by omega⟩ ?_ ?_
    · rintro i x _ hi ⟨rfl, b, rfl, ⟨b0, b1, b2, b3⟩, hj⟩
      have cb := cP_bd (f := gR (vX σ1)) (v := 1) (n := i)
      have cnt : (if gR (vX σ1) (i : Int) = 1 then (1 : Int) else 0) = if σ1 161 (i : Int) = -1 then 0 else 1 := by
        rw [g1 i (by omega) (by omega)]
        by_cases q : σ1 161 (i : Int) = -1
        · rw [if_pos q, if_neg (by decide)]
        · rw [if_neg q, if_pos rfl]
      have wi := (wq4 (i := i) (by omega)).1
      have wc := Hd.m (show w32 (cP i (gR (vX σ1)) 1 + 1) = cP i (gR (vX σ1)) 1 + 1 from w32_sm (by omega))
      dsimp only
      rw [ko_t (by omega), lod_eq (by omega), ko_bnd]
      refine ok_mono (P := fun r t => σ1 = t ∧ r = cP (i + 1) (gR (vX σ1)) 1) ?_ ?_
      · rw [cP, cnt]
        by_cases q : σ1 161 (i : Int) = -1
        · rw [if_pos q, ko_some, if_pos q, Int.add_zero]
          exact ⟨rfl, rfl⟩
        · rw [if_neg q, ko_some, if_neg q, wc.o]
          exact ⟨rfl, rfl⟩
      · rintro c _ ⟨rfl, rfl⟩
        have go : ∀ b' : Int, (b' = b ∨ (b' = i ∧ (σ1 161 (i : Int) = σ1 161 b → (i : Int) < b))) → σ1 161 b ≤ σ1 161 b' → σ1 161 (i : Int) ≤ σ1 161 b' → (σ1 161 (i : Int) = σ1 161 b' → b' ≤ i) → σ1 = σ1 ∧ ∃ b2 : Int, (b', cP (i + 1) (gR (vX σ1)) 1, w32 ((i : Int) + 1)) = (b2, cP (i + 1) (gR (vX σ1)) 1, ((i + 1 : Nat) : Int)) ∧ (0 ≤ b2 ∧ b2 < 12 ∧ 0 ≤ σ1 161 b2 ∧ (b2 = s ∨ b2 < ((i + 1 : Nat) : Int))) ∧ ∀ j : Int, 0 ≤ j → j < 12 → (j < ((i + 1 : Nat) : Int) → σ1 161 j ≤ σ1 161 b2 ∧ (σ1 161 j = σ1 161 b2 → b2 ≤ j)) := by
          intro b' hb h1 h2 h3
          refine ⟨rfl, b', by rw [wi.o], by omega, fun j j0 j1 j2 => ?_⟩
          by_cases e : j = i
          · rw [e]
            exact ⟨h2, h3⟩
          · have a := hj j j0 j1 (by omega)
            refine ⟨by omega, fun e2 => ?_⟩
            rcases hb with rfl | ⟨rfl, h4⟩
            · exact a.2 e2
            · have := a.2
              omega
        have hbi : σ1 161 (i : Int) = σ1 161 b → b ≤ i := fun e => by
          rcases b3 with e2 | e2
          · rw [e2, hs0] at e
            have := hz (i : Int) (by omega) (by omega) e
            omega
          · omega
        rw [lod_eq (by omega), lod_eq (by omega)]
        by_cases q : σ1 161 b < σ1 161 (i : Int)
        · rw [if_pos q, ko_some, ko_jl]
          exact go i (Or.inr ⟨rfl, fun e => by omega⟩) (by omega) (by omega) (fun _ => by omega)
        · rw [if_neg q, ko_some, ko_jl]
          exact go b (Or.inl rfl) (by omega) (by omega) hbi
    · rintro x _ ⟨rfl, b, rfl, ⟨b0, b1, b2, _⟩, hj⟩
      have hb : b < n ∧ vX σ1 b = σ1 161 b ∧ σ1 161 b ≤ 100000 := by
        rcases hV b b0 b1 with ⟨q, _⟩ | ⟨q1, q2, q3, q4⟩
        · omega
        · exact ⟨q4, q3, q2⟩
      have bs : BS n (vX σ1) b := by
        refine ⟨⟨b0, hb.1⟩, by omega, fun j j0 j1 j2 => ?_⟩
        have a := hj j j0 (by omega) (by omega)
        rcases hV j j0 (by omega) with ⟨_, q⟩ | ⟨q1, q2, q3, q4⟩
        · omega
        · rw [q3, hb.2.1]
          exact a
      have ct : cP 12 (gR (vX σ1)) 1 = cP n (gR (vX σ1)) 1 := cP_more (fun k k0 k1 => by
        rw [g1 k (by omega) (by omega), if_pos ((x1 k (by omega) (by omega)).2 (by omega))]
        decide) 12 hn (Nat.le_refl _)
      dsimp only
      rw [ko_f (by decide), ko_some, ko_jr]
      dsimp only
      refine ok_mono (P := fun v t => σ1 = t ∧ v = if w = 0 then b else if w = 1 then vX σ1 b else cP n (gR (vX σ1)) 1) ?_ ?_
      · by_cases c0 : w = 0
        · rw [if_pos c0, ko_some, if_pos c0]
          exact ⟨rfl, rfl⟩
        · rw [if_neg c0]
          by_cases c1 : w = 1
          · rw [if_pos c1, lod_eq (by omega), ko_some, if_neg c0, if_pos c1, hb.2.1]
            exact ⟨rfl, rfl⟩
          · rw [if_neg c1, ko_some, if_neg c0, if_neg c1, ct]
            exact ⟨rfl, rfl⟩
      · rintro v _ ⟨rfl, e⟩
        exact ⟨fx, vX σ1, b, v1.cong (by decide) fun _ _ _ => rfl, hset, bs, e⟩
