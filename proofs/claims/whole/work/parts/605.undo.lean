/-! UNDO -/
theorem s_undo {σ τ : St} (h : Rl σ τ) : Sim (fX11_undo σ) (fX12_undo τ) := by
  unfold fX12_undo
  refine sim_t0 h ?_
  clear h
  intro τ h
  obtain ⟨⟨u1, u2, u3, u4, u5⟩, uj⟩ := h.c_RU
  have hB := h.c_RB
  show Ok2 _ _ fun r σ' r' τ' => r' = r ∧ Rl σ' τ'
  unfold fX11_undo fX10_goBack
  simp only [fld_eq, put_eq]
  rw [u3]
  by_cases c : τ 0 3 = 0
  · rw [if_pos c, if_pos c, bnd_some, if_pos rfl, ok2_some]
    exact ⟨rfl, h⟩
  · have w1 : w32 (τ 0 3 - 1) = τ 0 3 - 1 := w32_sm (by omega)
    rw [if_neg c, if_neg c, w1, dvc_eq (by decide)]
    have y3 : up σ 52 2 (τ 0 3 - 1) 52 3 = σ 52 3 := (by (simp only [up_g, Nat.reduceAdd, true_and, and_true, false_and, and_false, Nat.reduceEqDiff, if_false, if_true]) <;> (repeat (first | rw [if_neg (by omega)] | rw [if_pos (by omega)])) <;> (first | assumption | omega))
    rw [y3]
    have wn : irm (w32 (w32 (σ 52 3 + 6) - 1)) 6 = (σ 52 3 + 5) % 6 := by
      rw [w32_sm (x := σ 52 3 + 6) (by omega), w32_sm (by omega), irm_nn (by omega)]
      congr 1
      omega
    rw [wn]
    have y4 : up (up σ 52 2 (τ 0 3 - 1)) 52 3 ((σ 52 3 + 5) % 6) 52 3 = (σ 52 3 + 5) % 6 := (by (simp only [up_g, Nat.reduceAdd, true_and, and_true, false_and, and_false, Nat.reduceEqDiff, if_false, if_true]) <;> (repeat (first | rw [if_neg (by omega)] | rw [if_pos (by omega)])) <;> (first | assumption | omega))
    rw [y4, kept_at (by omega)]
    have hb := hk_bd (v := (σ 52 3 + 5) % 6) (by omega)
    obtain ⟨σ1, e1, f1, hc⟩ := copyH (h := 3) (h2 := hk ((σ 52 3 + 5) % 6)) (σ := up (up σ 52 2 (τ 0 3 - 1)) 52 3 ((σ 52 3 + 5) % 6)) (by omega)
    rw [e1, bnd_some, f1 52 (by decide), y4, lod_eq (by omega), bnd_some, f1 54 (by decide)]
    have es : (σ 52 3 - τ 0 3 + (τ 0 3 - 1)) % 6 = (σ 52 3 + 5) % 6 := by omega
    obtain ⟨r1, r2, r3, r4, r5⟩ := uj (τ 0 3 - 1) (by omega) (by omega)
    rw [es] at r1 r2
    have y54 : up (up σ 52 2 (τ 0 3 - 1)) 52 3 ((σ 52 3 + 5) % 6) 54 ((σ 52 3 + 5) % 6) = τ 2 (161 * (τ 0 3 - 1) + 3) := r2
    rw [y54, if_neg (by omega)]
    -- the reference
    refine ok2_l (ok_mono (P := fun _ s => Fr [50] σ1 s ∧ s 50 0 = 5 ∧ s 50 2 = τ 2 (161 * (τ 0 3 - 1) + 3)) ?_ ?_)
    · obtain ⟨⟨w0, w1, w2, w3⟩, w4⟩ := hB
      have x50 : σ1 50 = σ 50 := f1 50 (by decide)
      unfold fX6_cutTo
      rw [if_neg (by omega), fld_eq, x50, w1]
      by_cases d : τ 2 (161 * (τ 0 3 - 1) + 3) < τ 1 3
      · rw [if_pos d, put_eq, ko_some]
        exact ⟨Fr.rf.up (by decide), by rw [up_at, if_neg (by decide), x50]; exact w0, by rw [up_at, if_pos rfl]⟩
      · rw [if_neg d, ko_some, x50, w0, w1]
        exact ⟨Fr.rf, rfl, by omega⟩
    rintro _ s ⟨fs, s0, s2⟩
    refine ok2_r (ok_mono (P := fun _ t => Fm [1] [3] τ t ∧ t 0 3 = τ 0 3 - 1 ∧ ∀ i, 0 ≤ i → i < 161 → t 1 i = τ 2 (161 * (τ 0 3 - 1) + i)) ?_ ?_)
    · refine for_ok 161 (fun n x t => x = (n : Int) ∧ Fm [1] [3] τ t ∧ t 0 3 = τ 0 3 - 1 ∧ ∀ i, 0 ≤ i → i < (n : Int) → t 1 i = τ 2 (161 * (τ 0 3 - 1) + i)) (by decide) ⟨rfl, (by repeat (first | exact Fm.rf | exact fm | exact fm.mono (by decide) (by decide) | refine Fm.u0 ?_ (by decide) | refine Fm.up ?_ (by decide) (by decide))), (by (simp only [up_g, Nat.reduceAdd, true_and, and_true, false_and, and_false, Nat.reduceEqDiff, if_false, if_true]) <;> (repeat (first | rw [if_neg (by omega)] | rw [if_pos (by omega)])) <;> (first | assumption | omega)), fun i i0 i1 => absurd i1 (by rw [Int.natCast_zero]; omega)⟩ ?_ ?_
      · rintro n x t hn ⟨rfl, fm, t3, hl⟩
        have wc : w32 (w32 (161 * (τ 0 3 - 1)) + (n : Int)) = 161 * (τ 0 3 - 1) + n := by rw [w32_l, w32_sm (by omega)]
        rw [ko_t (by omega), t3, wc, ko_lod, ko_sto, ko_some, ko_jl, fm.1 2 (by decide) (by decide)]
        refine ⟨by omega, by omega, w32_nat (by omega), (by repeat (first | exact Fm.rf | exact fm | exact fm.mono (by decide) (by decide) | refine Fm.u0 ?_ (by decide) | refine Fm.up ?_ (by decide) (by decide))), t3, fun i i0 i1 => ?_⟩
        simp only [up_g, true_and, and_true, false_and, and_false, Nat.reduceEqDiff, if_false, if_true]
        by_cases e : i = n
        · rw [if_pos e, e]
        · rw [if_neg e]
          exact hl i i0 (by omega)
      · rintro x t ⟨rfl, fm, t3, hl⟩
        rw [ko_f (by decide), ko_some, ko_jr]
        exact ⟨fm, t3, hl⟩
    rintro _ t ⟨ft, t3, t1⟩
    rw [ok2_some]
    refine ⟨rfl, ?_⟩
    have e2 := ft.1 2 (by decide) (by decide)
    have e4 := ft.1 4 (by decide) (by decide)
    have e5 := ft.1 5 (by decide) (by decide)
    have e6 := ft.1 6 (by decide) (by decide)
    have e7 := ft.1 7 (by decide) (by decide)
    have j6 := ft.2 6 (by decide)
    have j7 := ft.2 7 (by decide)
    have fx : Fr (50 :: 52 :: (List.range 14).map (fun k => 3 + k)) σ s := by
      intro k hkc
      have n50 : k ≠ 50 := fun e => hkc (by rw [e]; decide)
      have n52 : k ≠ 52 := fun e => hkc (by rw [e]; decide)
      rw [fs k (by simp only [List.mem_cons, List.not_mem_nil, or_false]; exact n50), f1 k (fun hb => hkc (by
        simp only [List.mem_cons, List.mem_map, List.mem_range]
        exact Or.inr (Or.inr ⟨k - 3, by omega, by omega⟩))), up_ne n52, up_ne n52]
    have hR : RH s 3 t := by
      have a : RH (up (up σ 52 2 (τ 0 3 - 1)) 52 3 ((σ 52 3 + 5) % 6)) (hk ((σ 52 3 + 5) % 6)) (vK τ (τ 0 3 - 1)) := r1.gen (fun k k0 k1 => by rw [up_ne (by omega), up_ne (by omega)]) (fun _ _ _ => rfl) rfl rfl rfl rfl rfl
      exact (a.copy hc).gen (fun k k0 k1 => fs k (by simp only [List.mem_cons, List.not_mem_nil, or_false]; omega)) (fun i i0 i1 => t1 i i0 i1) e4 e5 e6 j6 j7
    have l3 := t1 3 (by decide) (by decide)
    have hB2 : RB s 50 t := by
      obtain ⟨⟨w0, w1, w2, w3⟩, w4⟩ := hB
      refine ⟨⟨s0, by rw [l3]; exact s2, by rw [l3]; exact r3, by rw [l3]; omega⟩, fun j j0 j1 => ?_⟩
      rw [l3] at j1
      rw [fs 51 (by decide), f1 51 (by decide), e7]
      exact w4 j j0 (by omega)
    have x52 : s 52 = up (up σ 52 2 (τ 0 3 - 1)) 52 3 ((σ 52 3 + 5) % 6) 52 := (fs 52 (by decide)).trans (f1 52 (by decide))
    refine h.set_RH_RU_RB (fx.mono (by decide)) (ft.mono (by decide) (by decide)) hR ⟨⟨by omega, by omega, ?_, ?_, ?_⟩, fun j j0 j1 => ?_⟩ hB2
    · rw [x52, t3]
      exact (by (simp only [up_g, Nat.reduceAdd, true_and, and_true, false_and, and_false, Nat.reduceEqDiff, if_false, if_true]) <;> (repeat (first | rw [if_neg (by omega)] | rw [if_pos (by omega)])) <;> (first | assumption | omega))
    · rw [x52, y4]
      omega
    · rw [x52, y4]
      omega
    · rw [t3] at j1
      obtain ⟨z1, z2, z3, z4, z5⟩ := uj j j0 (by omega)
      rw [x52, y4, t3, l3, e2, show ((σ 52 3 + 5) % 6 - (τ 0 3 - 1) + j) % 6 = (σ 52 3 - τ 0 3 + j) % 6 by omega]
      have b2 := hk_bd (v := (σ 52 3 - τ 0 3 + j) % 6) (by omega)
      refine ⟨z1.gen (fun k k0 k1 => fx k fun hm => ?_) (fun i i0 i1 => ?_) e4 e5 e6 j6 j7, ?_, z3, r5 j j0 (by omega), z5⟩
      · simp only [List.mem_cons, List.mem_map, List.mem_range] at hm
        omega
      · show t 2 (161 * j + i) = τ 2 (161 * j + i)
        rw [e2]
      · rw [fx 54 (by decide)]
        exact z2
