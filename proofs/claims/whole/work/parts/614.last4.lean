/-! LAST -/
theorem m_last {C : Int → Int} {L n : Nat} {s w : Int} {τ : St} (h6 : τ 0 6 = n) (hn : n ≤ 12) (hC : ∀ k : Nat, k < L → 1 ≤ C ((k : Int) * 4 + 2)) (hF : ∀ a b : Int, 0 ≤ a → a < 12 → 0 ≤ b → b < 12 → τ 20 (12 * a + b) = fm L C a b) (hw : wkOk C L n) (hs : 0 ≤ s ∧ s < n) (hw2 : 0 ≤ w ∧ w ≤ 2) : Ok (fX12_last s w τ) fun v τ' => Fm [48] [0] τ τ' ∧ ∃ V b, LV C L n s 200000 V ∧ (∀ x : Int, 0 ≤ x → x < (n : Int) → sett C L s V x) ∧ BS n V b ∧ v = if w = 0 then b else if w = 1 then V b else cP n (gR V) 1 := by
  unfold fX12_last
  have h60 : up τ 0 0 0 0 6 = n := h6
  rw [ko_put, isPorch_eq, bnd_some, h60, if_pos hs, if_neg (show ¬ ((1 : Int) = 0) by decide), isIn_eq, bnd_some, if_pos hw2, if_neg (show ¬ ((1 : Int) = 0) by decide), ko_bnd]
  have f0 : Fm [48] [0] τ (up τ 0 0 0) := Fm.rf.u0 (by decide)
  generalize up τ 0 0 0 = τ0 at *
  refine for_ok n (fun i x t => x = (i : Int) ∧ Fm [48] [0] τ t ∧ ∀ j : Int, 0 ≤ j → j < (i : Int) → t 48 j = if j = s then 0 else 100000000) (by omega) ⟨rfl, f0, fun j j0 j1 => absurd j1 (by rw [Int.natCast_zero]; omega)⟩ ?_ ?_
  · rintro i x t hi ⟨rfl, ft, hj⟩
    have wi := (wq4 (i := i) (by omega)).1
    have key : ∀ v : Int, v = (if (i : Int) = s then 0 else 100000000) → ∀ j : Int, 0 ≤ j → j < ((i + 1 : Nat) : Int) → up t 48 (i : Int) v 48 j = if j = s then 0 else 100000000 := by
      intro v hv j j0 j1
      simp only [up_g, true_and, and_true, false_and, and_false, Nat.reduceEqDiff, if_false, if_true]
      by_cases e : j = i
      · rw [if_pos e, hv, e]
      · rw [if_neg e]
        exact hj j j0 (by omega)
    rw [ko_fld, show t 0 6 = n by rw [ft.2 6 (by decide)]; exact h6, ko_t (by omega)]
    by_cases e : (i : Int) = s
    · rw [ko_t e, sto_eq (by omega), ko_some, ko_jl, wi.o]
      exact ⟨rfl, ft.up (by decide) (by decide), key 0 (by rw [if_pos e])⟩
    · rw [ko_f e, sto_eq (by omega), ko_some, ko_jl, wi.o]
      exact ⟨rfl, ft.up (by decide) (by decide), key _ (by rw [if_neg e])⟩
  rintro x τ1 ⟨rfl, f1, hj⟩
  rw [ko_fld, show τ1 0 6 = n by rw [f1.2 6 (by decide)]; exact h6, ko_f (Int.lt_irrefl _), ko_some, ko_jr, ko_bnd]
  have v0 : LV C L n s 0 (τ1 48) := fun x y0 y1 => by
    rw [hj x y0 y1]
    by_cases e : x = s
    · rw [if_pos e]
      exact Or.inr ⟨by decide, by decide, 0, e, rfl⟩
    · rw [if_neg e]
      exact Or.inl rfl
  have r0 : RD C L n s 0 (τ1 48) := ⟨by rw [hj s hs.1 hs.2, if_pos rfl]; decide, Or.inl (Nat.zero_le _)⟩
  clear hj f0
  refine for_ok n (fun r x t => x = (r : Int) ∧ Fm [48] [0] τ t ∧ LV C L n s (14256 * r) (t 48) ∧ RD C L n s r (t 48)) (by omega) ⟨rfl, f1, v0.cong (by omega) (fun _ _ _ => rfl), r0⟩ ?_ ?_
  · rintro r x t hr ⟨rfl, ft, vt, rt⟩
    have wi := (wq4 (i := r) (by omega)).1
    have e6 : t 0 6 = n := (ft.2 6 (by decide)).trans h6
    rw [ko_fld, e6, ko_t (by omega), ko_bnd]
    refine ok_mono (m_round (B := 14256 * (r : Int)) e6 hn hC (by rw [ft.1 20 (by decide) (by decide)]; exact hF) hw (by omega) vt) ?_
    rintro _ t2 ⟨f2, v2, l2, c2⟩
    rw [ko_some, ko_jl, wi.o]
    exact ⟨rfl, ft.tr (f2.mono (by decide) (by decide)), v2.cong (by omega) fun _ _ _ => rfl, rt.next hw hs l2 c2⟩
  rintro x t ⟨rfl, ft, vt, rt⟩
  have e6 : t 0 6 = n := (ft.2 6 (by decide)).trans h6
  have hset : ∀ x : Int, 0 ≤ x → x < (n : Int) → sett C L s (t 48) x := fun x y0 y1 => rt.all (Nat.le_refl n) y0 y1
  have hV : ∀ x : Int, 0 ≤ x → x < (n : Int) → t 48 x = 100000000 ∨ (0 ≤ t 48 x ∧ t 48 x ≤ 200000) := fun x y0 y1 => by
    rcases vt x y0 y1 with q | ⟨q1, q2, _⟩
    · exact Or.inl q
    · exact Or.inr ⟨q1, by omega⟩
  have hs0 := rt.1
  rw [ko_fld, e6, ko_f (Int.lt_irrefl _), ko_some, ko_jr, ko_fld, e6, ko_lb, w32_sm (x := (n : Int) - 1) (by omega), ko_bnd]
  refine for_ok n (fun i x t' => t = t' ∧ ∃ b : Int, x = (cP n (gR (t 48)) 1 - cP (n - i) (gR (t 48)) 1, b, (n : Int) - 1 - i) ∧ (0 ≤ b ∧ b < n ∧ t 48 b < 100000000) ∧ ∀ j : Int, (n : Int) - i ≤ j → 0 ≤ j → j < (n : Int) → t 48 j < 100000000 → t 48 j ≤ t 48 b ∧ (t 48 j = t 48 b → b ≤ j)) (by omega) ⟨rfl, s, ?_, ⟨hs.1, hs.2, by omega⟩, fun j j0 _ j1 => by omega⟩ ?_ ?_
  · rw [Nat.sub_zero, Int.sub_self, Int.natCast_zero, Int.sub_zero]
  · rintro i x _ hi ⟨rfl, b, rfl, ⟨b0, b1, b2⟩, hj⟩
    have cb := cP_bd (f := gR (t 48)) (v := 1) (n := n)
    have cb2 := cP_bd (f := gR (t 48)) (v := 1) (n := n - (i + 1))
    have cs : cP (n - i) (gR (t 48)) 1 = cP (n - (i + 1)) (gR (t 48)) 1 + if t 48 ((n : Int) - 1 - i) < 100000000 then 1 else 0 := by
      rw [show n - i = (n - (i + 1)) + 1 by omega, cP, show ((n - (i + 1) : Nat) : Int) = (n : Int) - 1 - i by omega]
      unfold gR
      by_cases q : t 48 ((n : Int) - 1 - i) < 100000000
      · rw [if_pos q, if_pos rfl]
      · rw [if_neg q, if_neg (by decide)]
    have wp := Hd.m (show w32 ((n : Int) - 1 - i + -1) = (n : Int) - 1 - ((i + 1 : Nat) : Int) by rw [w32_sm (by omega)]; omega)
    dsimp only
    rw [ko_f (by omega), lod_eq (by omega)]
    by_cases q : t 48 ((n : Int) - 1 - i) < 100000000
    · rw [if_pos q] at cs
      have wc := Hd.m (show w32 (cP n (gR (t 48)) 1 - cP (n - i) (gR (t 48)) 1 + 1) = cP n (gR (t 48)) 1 - cP (n - (i + 1)) (gR (t 48)) 1 by rw [w32_sm (by omega)]; omega)
      rw [ko_t q, ko_lb, lod_eq (by omega), lod_eq (by omega)]
      by_cases d : t 48 ((n : Int) - 1 - i) < t 48 b
      · rw [ko_t d, ko_some, ko_jl, wc.o, wp.o]
        refine ⟨rfl, b, rfl, ⟨b0, b1, b2⟩, fun j j0 j1 j2 j3 => ?_⟩
        by_cases e : j = (n : Int) - 1 - i
        · rw [e]
          omega
        · exact hj j (by omega) j1 j2 j3
      · rw [ko_f d, ko_some, ko_jl, wc.o, wp.o]
        refine ⟨rfl, _, rfl, ⟨by omega, by omega, q⟩, fun j j0 j1 j2 j3 => ?_⟩
        by_cases e : j = (n : Int) - 1 - i
        · rw [e]
          omega
        · have := hj j (by omega) j1 j2 j3
          omega
    · rw [if_neg q] at cs
      rw [ko_f q, ko_some, ko_jl, wp.o, show cP n (gR (t 48)) 1 - cP (n - i) (gR (t 48)) 1 = cP n (gR (t 48)) 1 - cP (n - (i + 1)) (gR (t 48)) 1 by omega]
      refine ⟨rfl, b, rfl, ⟨b0, b1, b2⟩, fun j j0 j1 j2 j3 => ?_⟩
      by_cases e : j = (n : Int) - 1 - i
      · rw [e] at j3
        exact absurd j3 q
      · exact hj j (by omega) j1 j2 j3
  · rintro x _ ⟨rfl, b, rfl, ⟨b0, b1, b2⟩, hj⟩
    have bs : BS n (t 48) b := ⟨⟨b0, b1⟩, b2, fun j j0 j1 j2 => hj j (by omega) j0 j1 j2⟩
    dsimp only
    rw [ko_t (by omega), ko_some, ko_jr]
    dsimp only
    refine ok_mono (P := fun v t' => t = t' ∧ v = if w = 0 then b else if w = 1 then t 48 b else cP n (gR (t 48)) 1) ?_ ?_
    · by_cases c0 : w = 0
      · rw [if_pos c0, ko_some, if_pos c0]
        exact ⟨rfl, rfl⟩
      · rw [if_neg c0]
        by_cases c1 : w = 1
        · rw [if_pos c1, lod_eq (by omega), ko_some, if_neg c0, if_pos c1]
          exact ⟨rfl, rfl⟩
        · rw [if_neg c1, ko_some, if_neg c0, if_neg c1, Nat.sub_self]
          exact ⟨rfl, Int.sub_zero _⟩
    · rintro v _ ⟨rfl, e⟩
      exact ⟨ft, t 48, b, vt.cong (by omega) fun _ _ _ => rfl, hset, bs, e⟩
theorem ok2_left {α β : Type} {x : α} {σ : St} {h2 : Rs β} {P : α → St → β → St → Prop} (o : Ok h2 fun y τ => P x σ y τ) : Ok2 (some (x, σ)) h2 P := ⟨x, σ, rfl, o⟩
theorem s_last {σ τ : St} (h : Rl σ τ) {p1 p2 : Int} : Sim (fX11_last p1 p2 σ) (fX12_last p1 p2 τ) := by
  refine Sim.of h ?_
  have hR := h.c_RH
  obtain ⟨⟨w0, w1, w2, w3⟩, w4, w5⟩ := h.c_RStreet
  simp only [Nat.reduceAdd] at w0 w1 w4 w5
  clear h
  have b5 := hR.1.2.2.2.2.1
  have bb := hR.2.1
  clear hR
  obtain ⟨n, hn⟩ : ∃ n : Nat, τ 0 6 = n := ⟨(τ 0 6).toNat, by omega⟩
  obtain ⟨L, hL⟩ : ∃ n : Nat, τ 0 39 = n := ⟨(τ 0 39).toNat, by omega⟩
  rw [hL] at w1 w2 w3 w4 w5
  unfold fX11_last
  rw [hasPorch_eq, bnd_some, b5, hn]
  by_cases c : 0 ≤ p1 ∧ p1 < n
  · rw [if_pos c, if_neg (show ¬ ((1 : Int) = 0) by decide), within_eq, bnd_some]
    by_cases d : 0 ≤ p2 ∧ p2 ≤ 2
    · rw [if_pos d, if_neg (show ¬ ((1 : Int) = 0) by decide)]
      have hw : wkOk (σ 27) L n := by
        rintro u v w ⟨k, hk, h1, h2⟩
        obtain ⟨q1, q2, q3, q4, q5, q6, q7⟩ := w4 k (by omega) (by omega)
        rcases h1 with ⟨h1, h3⟩ | ⟨h1, h3⟩ <;> omega
      refine ok2_l (ok_mono (c_last w0 w1 (by omega) (by omega) hw c) ?_)
      rintro v σ' ⟨fx, V, b, lv, st, bs, ev⟩
      refine ok2_left (ok_mono (m_last hn (by omega) (fun k hk => (w4 k (by omega) (by omega)).2.2.2.2.2.1) (fun a b a0 a1 b0 b1 => by rw [w5 a b a0 a1 b0 b1, Int.toNat_natCast]) hw c d) ?_)
      rintro v' τ' ⟨fm, V', b', lv', st', bs', ev'⟩
      have eq : ∀ j : Int, 0 ≤ j → j < (n : Int) → V' j = V j := fun j j0 j1 => by
        have q1 := lv.le lv' (by decide) (by decide) st j j0 j1
        have q2 := lv'.le lv (by decide) (by decide) st' j j0 j1
        omega
      have eb := bs'.uniq bs eq
      refine ⟨?_, fx.mono (by decide), fm.mono (by decide) (by decide)⟩
      rw [ev, ev', eb, gR_cong eq, eq b bs.1.1 bs.1.2]
    · rw [if_neg d, if_pos rfl]
      unfold fX12_last
      rw [put_eq, isPorch_eq, bnd_some, show up τ 0 0 0 0 6 = n from hn, if_pos c, if_neg (show ¬ ((1 : Int) = 0) by decide), isIn_eq, bnd_some, if_neg d, if_pos rfl, ok2_some]
      exact ⟨rfl, Fr.rf, Fm.rf.u0 (by decide)⟩
  · rw [if_neg c, if_pos rfl]
    unfold fX12_last
    rw [put_eq, isPorch_eq, bnd_some, show up τ 0 0 0 0 6 = n from hn, if_neg c, if_pos rfl, ok2_some]
    exact ⟨rfl, Fr.rf, Fm.rf.u0 (by decide)⟩
