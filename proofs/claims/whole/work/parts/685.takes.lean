/-! TEXT: the reference takes what it read -/
theorem takesLaw_ok {s : St} {m k : Nat} (hm : m ≤ 16) (h26 : s 0 26 = 0) (h27 : s 0 27 = k) (hk : k ≤ 400) : Ok (fX12_takesLaw m s) fun _ t => Fm [10, 11, 12, 13, 14, 15, 16] [] s t ∧ t 10 0 = m ∧ (∀ j : Nat, j < m → t 11 j = s 11 (32 + j) ∧ t 12 j = s 12 (32 + j) ∧ t 13 j = s 13 (32 + j) ∧ t 14 j = s 14 (32 + j)) ∧ ∀ j : Nat, j < k → t 15 j = s 15 (800 + j) ∧ t 16 j = s 16 (800 + j) := by
  unfold fX12_takesLaw
  rw [ko_bnd]
  refine for_ok m (fun i x t => x = (i : Int) ∧ Fm [11, 12, 13, 14] [] s t ∧ (∀ j : Nat, j < i → t 11 j = s 11 (32 + j) ∧ t 12 j = s 12 (32 + j) ∧ t 13 j = s 13 (32 + j) ∧ t 14 j = s 14 (32 + j)) ∧ ∀ j : Int, 16 ≤ j → t 11 j = s 11 j ∧ t 12 j = s 12 j ∧ t 13 j = s 13 j ∧ t 14 j = s 14 j) (by omega) ⟨rfl, Fm.rf, fun j hj => by omega, fun j hj => ⟨rfl, rfl, rfl, rfl⟩⟩ ?_ ?_
  · rintro i x t hi ⟨rfl, f, lo, up16⟩
    have z : t 0 26 = 0 := (f.2 26 (by decide)).trans h26
    have c0 : w32 (16 * 0) = 0 := w32_sm (by omega)
    have c1 : w32 (0 + (i : Int)) = i := by rw [w32_sm (by omega)]; omega
    have c2 : w32 (32 + (i : Int)) = 32 + i := w32_sm (by omega)
    obtain ⟨u1, u2, u3, u4⟩ := up16 (32 + i) (by omega)
    rw [if_pos (by omega), fld_eq, z, c0, c1, c2, lod_eq (by omega), sto_eq (by omega), fld_eq, show (up t 11 (i : Int) (t 11 (32 + i))) 0 26 = 0 from z, c0, c1, lod_eq (by omega), sto_eq (by omega), fld_eq, show (up (up t 11 (i : Int) (t 11 (32 + i))) 12 (i : Int) ((up t 11 (i : Int) (t 11 (32 + i))) 12 (32 + i))) 0 26 = 0 from z, c0, c1, lod_eq (by omega), sto_eq (by omega), fld_eq]
    have q2 : (up t 11 (i : Int) (t 11 (32 + i))) 12 (32 + i) = t 12 (32 + i) := rfl
    rw [q2]
    have q3 : (up (up t 11 (i : Int) (t 11 (32 + i))) 12 (i : Int) (t 12 (32 + i))) 13 (32 + i) = t 13 (32 + i) := rfl
    rw [q3, show (up (up (up t 11 (i : Int) (t 11 (32 + i))) 12 (i : Int) (t 12 (32 + i))) 13 (i : Int) (t 13 (32 + i))) 0 26 = 0 from z, c0, c1, lod_eq (by omega), sto_eq (by omega), w32_nat (by omega)]
    have q4 : (up (up (up t 11 (i : Int) (t 11 (32 + i))) 12 (i : Int) (t 12 (32 + i))) 13 (i : Int) (t 13 (32 + i))) 14 (32 + i) = t 14 (32 + i) := rfl
    rw [q4]
    refine ok_ret ⟨rfl, (((f.up (by decide) (by decide)).up (by decide) (by decide)).up (by decide) (by decide)).up (by decide) (by decide), fun j hj => ?_, fun j hj => ?_⟩
    · simp only [up_g, true_and, false_and, Nat.reduceEqDiff, if_false]
      by_cases e : j = i
      · subst e
        rw [if_pos rfl, if_pos rfl, if_pos rfl, if_pos rfl]
        exact ⟨u1, u2, u3, u4⟩
      · rw [if_neg (by omega), if_neg (by omega), if_neg (by omega), if_neg (by omega)]
        exact lo j (by omega)
    · simp only [up_g, true_and, false_and, Nat.reduceEqDiff, if_false]
      rw [if_neg (by omega), if_neg (by omega), if_neg (by omega), if_neg (by omega)]
      exact up16 j hj
  · rintro x t ⟨rfl, f, lo, up16⟩
    rw [if_neg (by omega)]
    refine ok_ret (show Ok _ _ from ?_)
    rw [ko_bnd]
    refine for_ok k (fun i x u => x = (i : Int) ∧ Fm [15, 16] [] t u ∧ (∀ j : Nat, j < i → u 15 j = s 15 (800 + j) ∧ u 16 j = s 16 (800 + j)) ∧ ∀ j : Int, 800 ≤ j → u 15 j = s 15 j ∧ u 16 j = s 16 j) (by omega) ⟨rfl, Fm.rf, fun j hj => by omega, fun j hj => by rw [f.1 15 (by decide) (by decide), f.1 16 (by decide) (by decide)]; exact ⟨rfl, rfl⟩⟩ ?_ ?_
    · rintro i x u hi ⟨rfl, g, lo', up8⟩
      have z : u 0 26 = 0 := ((g.2 26 (by decide)).trans (f.2 26 (by decide))).trans h26
      have z7 : u 0 27 = k := ((g.2 27 (by decide)).trans (f.2 27 (by decide))).trans h27
      have c0 : w32 (400 * 0) = 0 := w32_sm (by omega)
      have c1 : w32 (0 + (i : Int)) = i := by rw [w32_sm (by omega)]; omega
      have c2 : w32 (800 + (i : Int)) = 800 + i := w32_sm (by omega)
      obtain ⟨u1, u2⟩ := up8 (800 + i) (by omega)
      rw [fld_eq, z7, if_pos (by omega), fld_eq, z, c0, c1, c2, lod_eq (by omega), sto_eq (by omega), fld_eq, show (up u 15 (i : Int) (u 15 (800 + i))) 0 26 = 0 from z, c0, c1, lod_eq (by omega), sto_eq (by omega), w32_nat (by omega)]
      have q2 : (up u 15 (i : Int) (u 15 (800 + i))) 16 (800 + i) = u 16 (800 + i) := rfl
      rw [q2]
      refine ok_ret ⟨rfl, (g.up (by decide) (by decide)).up (by decide) (by decide), fun j hj => ?_, fun j hj => ?_⟩
      · simp only [up_g, true_and, false_and, Nat.reduceEqDiff, if_false]
        by_cases e : j = i
        · subst e
          rw [if_pos rfl, if_pos rfl]
          exact ⟨u1, u2⟩
        · rw [if_neg (by omega), if_neg (by omega)]
          exact lo' j (by omega)
      · simp only [up_g, true_and, false_and, Nat.reduceEqDiff, if_false]
        rw [if_neg (by omega), if_neg (by omega)]
        exact up8 j hj
    · rintro x u ⟨rfl, g, lo', up8⟩
      have z : u 0 26 = 0 := ((g.2 26 (by decide)).trans (f.2 26 (by decide))).trans h26
      have z7 : u 0 27 = k := ((g.2 27 (by decide)).trans (f.2 27 (by decide))).trans h27
      rw [fld_eq, z7, if_neg (by omega)]
      refine ok_ret (show Ok _ _ from ?_)
      rw [fld_eq, z, sto_eq (by omega)]
      have F : Fm [10, 11, 12, 13, 14, 15, 16] [] s u := (f.mono (by decide) (by decide)).tr (g.mono (by decide) (by decide))
      refine ok_ret ⟨F.up (by decide) (by decide), if_pos ⟨rfl, rfl⟩, fun j hj => ?_, fun j hj => ?_⟩
      · simp only [up_g, false_and, Nat.reduceEqDiff, if_false]
        rw [g.1 11 (by decide) (by decide), g.1 12 (by decide) (by decide), g.1 13 (by decide) (by decide), g.1 14 (by decide) (by decide)]
        exact lo j hj
      · simp only [up_g, false_and, Nat.reduceEqDiff, if_false]
        exact lo' j hj
theorem takes1_ok {s : St} {m : Nat} (hm : m ≤ 16) : Ok (fX12_takesOther 1 m s) fun _ t => Fm [18] [3, 35] s t ∧ t 0 35 = m ∧ t 0 3 = 0 ∧ ∀ j : Int, 0 ≤ j → j < 4 * (m : Int) → t 18 j = s 18 (64 + j) := by
  unfold fX12_takesOther
  simp only [Int.reduceEq, if_false, if_true]
  rw [w32_sm (x := 4 * (m : Int)) (by omega), ko_bnd]
  refine for_ok (4 * m) (fun i x t => x = (i : Int) ∧ Fm [18] [] s t ∧ (∀ j : Int, 0 ≤ j → j < i → t 18 j = s 18 (64 + j)) ∧ ∀ j : Int, 64 ≤ j → t 18 j = s 18 j) (by omega) ⟨rfl, Fm.rf, fun j _ hj => by omega, fun _ _ => rfl⟩ ?_ ?_
  · rintro i x t hi ⟨rfl, f, lo, up6⟩
    have u1 := up6 (64 + i) (by omega)
    rw [if_pos (by omega), w32_sm (x := 64 + (i : Int)) (by omega), lod_eq (by omega), sto_eq (by omega), w32_nat (by omega)]
    refine ok_ret ⟨rfl, f.up (by decide) (by decide), fun j j0 hj => ?_, fun j hj => ?_⟩
    · rw [up_g]
      by_cases e : j = i
      · subst e
        rw [if_pos ⟨rfl, rfl⟩]
        exact u1
      · rw [if_neg (fun z => e z.2)]
        exact lo j j0 (by omega)
    · rw [up_g, if_neg (by omega)]
      exact up6 j hj
  · rintro x t ⟨rfl, f, lo, up6⟩
    rw [if_neg (by omega)]
    refine ok_ret (show Ok _ _ from ?_)
    rw [put_eq, put_eq]
    exact ok_ret ⟨((f.mono (by decide) (by decide)).u0 (by decide)).u0 (by decide), rfl, rfl, fun j j0 hj => lo j j0 (by omega)⟩
theorem takes2_ok {s : St} {m : Nat} (hm : m ≤ 16) : Ok (fX12_takesOther 2 m s) fun _ t => Fm [19] [3, 37] s t ∧ t 0 37 = m ∧ t 0 3 = 0 ∧ ∀ j : Int, 0 ≤ j → j < 4 * (m : Int) → t 19 j = s 19 (64 + j) := by
  unfold fX12_takesOther
  simp only [Int.reduceEq, if_false, if_true]
  rw [w32_sm (x := 4 * (m : Int)) (by omega), ko_bnd]
  refine for_ok (4 * m) (fun i x t => x = (i : Int) ∧ Fm [19] [] s t ∧ (∀ j : Int, 0 ≤ j → j < i → t 19 j = s 19 (64 + j)) ∧ ∀ j : Int, 64 ≤ j → t 19 j = s 19 j) (by omega) ⟨rfl, Fm.rf, fun j _ hj => by omega, fun _ _ => rfl⟩ ?_ ?_
  · rintro i x t hi ⟨rfl, f, lo, up6⟩
    have u1 := up6 (64 + i) (by omega)
    rw [if_pos (by omega), w32_sm (x := 64 + (i : Int)) (by omega), lod_eq (by omega), sto_eq (by omega), w32_nat (by omega)]
    refine ok_ret ⟨rfl, f.up (by decide) (by decide), fun j j0 hj => ?_, fun j hj => ?_⟩
    · rw [up_g]
      by_cases e : j = i
      · subst e
        rw [if_pos ⟨rfl, rfl⟩]
        exact u1
      · rw [if_neg (fun z => e z.2)]
        exact lo j j0 (by omega)
    · rw [up_g, if_neg (by omega)]
      exact up6 j hj
  · rintro x t ⟨rfl, f, lo, up6⟩
    rw [if_neg (by omega)]
    refine ok_ret (show Ok _ _ from ?_)
    rw [put_eq, put_eq]
    exact ok_ret ⟨((f.mono (by decide) (by decide)).u0 (by decide)).u0 (by decide), rfl, rfl, fun j j0 hj => lo j j0 (by omega)⟩
theorem takes3_ok {s : St} {m : Int} : Ok (fX12_takesOther 3 m s) fun _ t => Fm [20] [39] s t ∧ t 0 39 = m ∧ ∀ j : Int, 0 ≤ j → j < 144 → t 20 j = s 20 (144 + j) := by
  unfold fX12_takesOther
  simp only [eq_self_iff_true, if_true]
  rw [ko_bnd]
  refine for_ok 144 (fun i x t => x = (i : Int) ∧ Fm [20] [] s t ∧ (∀ j : Int, 0 ≤ j → j < i → t 20 j = s 20 (144 + j)) ∧ ∀ j : Int, 144 ≤ j → t 20 j = s 20 j) (by decide) ⟨rfl, Fm.rf, fun j _ hj => by omega, fun _ _ => rfl⟩ ?_ ?_
  · rintro i x t hi ⟨rfl, f, lo, up6⟩
    have u1 := up6 (144 + i) (by omega)
    rw [if_pos (by omega), w32_sm (x := 144 + (i : Int)) (by omega), lod_eq (by omega), sto_eq (by omega), w32_nat (by omega)]
    refine ok_ret ⟨rfl, f.up (by decide) (by decide), fun j j0 hj => ?_, fun j hj => ?_⟩
    · rw [up_g]
      by_cases e : j = i
      · subst e
        rw [if_pos ⟨rfl, rfl⟩]
        exact u1
      · rw [if_neg (fun z => e z.2)]
        exact lo j j0 (by omega)
    · rw [up_g, if_neg (by omega)]
      exact up6 j hj
  · rintro x t ⟨rfl, f, lo, up6⟩
    rw [if_neg (by omega)]
    refine ok_ret (show Ok _ _ from ?_)
    rw [put_eq]
    exact ok_ret ⟨(f.mono (by decide) (by decide)).u0 (by decide), rfl, fun j j0 hj => lo j j0 (by omega)⟩
