/-! what can be undone is kept -/
def kC : List Nat := [52, 54] ++ (List.range 84).map (fun k => 55 + k)
theorem kC_mem {k : Nat} (h : k = 52 ∨ k = 54 ∨ 55 ≤ k ∧ k ≤ 138) : k ∈ kC := by
  unfold kC
  simp only [List.mem_append, List.mem_cons, List.not_mem_nil, or_false, List.mem_map, List.mem_range]
  rcases h with h | h | h
  · exact Or.inl (Or.inl h)
  · exact Or.inl (Or.inr h)
  · exact Or.inr ⟨k - 55, by omega, by omega⟩
theorem kept_at {v : Int} (h : 0 ≤ v ∧ v ≤ 5) {β : Type} {g : Nat → Rs β} : loa keptIds v g = g (hk v) := by
  unfold loa
  rcases (show v = 0 ∨ v = 1 ∨ v = 2 ∨ v = 3 ∨ v = 4 ∨ v = 5 by omega) with rfl | rfl | rfl | rfl | rfl | rfl <;> rfl
theorem hk_bd {v : Int} (h : 0 ≤ v ∧ v ≤ 5) : 55 ≤ hk v ∧ hk v + 13 ≤ 138 := by
  unfold hk
  omega
theorem hk_apart {u v : Int} (h : 0 ≤ u ∧ u ≤ 5) (h2 : 0 ≤ v ∧ v ≤ 5) (ne : u ≠ v) : hk u + 13 < hk v ∨ hk v + 13 < hk u := by
  unfold hk
  omega
/-- the reference's rows, one more -/
theorem m_keep {τ : St} (h0 : 0 ≤ τ 0 3) (h1 : τ 0 3 ≤ 6) : Ok (fX12_keepsAhead τ) fun _ τ' => Fm [2] [3] τ τ' ∧ τ' 0 3 = (if τ 0 3 = 6 then 6 else τ 0 3 + 1) ∧ (∀ i, 0 ≤ i → i < 161 → τ' 2 (161 * (if τ 0 3 = 6 then 5 else τ 0 3) + i) = τ 1 i) ∧ ∀ i, 0 ≤ i → i < 161 * (if τ 0 3 = 6 then 5 else τ 0 3) → τ' 2 i = τ 2 (i + if τ 0 3 = 6 then 161 else 0) := by
  unfold fX12_keepsAhead
  rw [fld_eq, ko_bnd]
  refine ok_mono (P := fun _ t => Fm [2] [3] τ t ∧ t 0 3 = (if τ 0 3 = 6 then 5 else τ 0 3) ∧ ∀ i, 0 ≤ i → i < 161 * (if τ 0 3 = 6 then 5 else τ 0 3) → t 2 i = τ 2 (i + if τ 0 3 = 6 then 161 else 0)) ?_ ?_
  · by_cases c : τ 0 3 = 6
    · simp only [if_pos c]
      rw [fld_eq, put_eq, c, w32_sm (x := 6 - 1) (by decide)]
      refine for_ok 805 (fun n x t => x = (n : Int) ∧ Fm [2] [3] τ t ∧ t 0 3 = 5 ∧ (∀ i, 0 ≤ i → i < (n : Int) → t 2 i = τ 2 (i + 161)) ∧ ∀ i, (n : Int) ≤ i → t 2 i = τ 2 i) (by decide) ⟨rfl, (by repeat (first | exact Fm.rf | exact fm | exact fm.mono (by decide) (by decide) | refine Fm.u0 ?_ (by decide) | refine Fm.up ?_ (by decide) (by decide))), rfl, fun i i0 i1 => absurd i1 (by rw [Int.natCast_zero]; omega), fun i _ => rfl⟩ ?_ ?_
      · rintro n x t hn ⟨rfl, fm, t3, hl, hg⟩
        rw [ko_fld, t3, w32_sm (x := 161 * 5) (by decide), ko_t (by omega), w32_sm (x := (n : Int) + 161) (by omega), ko_lod, ko_sto, ko_some, ko_jl, hg _ (by omega)]
        refine ⟨by omega, by omega, w32_nat (by omega), (by repeat (first | exact Fm.rf | exact fm | exact fm.mono (by decide) (by decide) | refine Fm.u0 ?_ (by decide) | refine Fm.up ?_ (by decide) (by decide))), t3, fun i i0 i1 => ?_, fun i i0 => ?_⟩
        · simp only [up_g, true_and, and_true, false_and, and_false, Nat.reduceEqDiff, if_false, if_true]
          by_cases e : i = n
          · rw [if_pos e, e]
          · rw [if_neg e]
            exact hl i i0 (by omega)
        · simp only [up_g, true_and, and_true, false_and, and_false, Nat.reduceEqDiff, if_false, if_true]
          rw [if_neg (by omega)]
          exact hg i (by omega)
      · rintro x t ⟨rfl, fm, t3, hl, hg⟩
        rw [ko_fld, t3, w32_sm (x := 161 * 5) (by decide), ko_f (by decide), ko_some, ko_jr]
        exact ⟨fm, t3, fun i i0 i1 => hl i i0 (by omega)⟩
    · simp only [if_neg c]
      rw [ko_some]
      exact ⟨Fm.rf, rfl, fun i _ _ => by rw [Int.add_zero]⟩
  rintro _ t ⟨fm, t3, ht⟩
  have nx : (if τ 0 3 = 6 then (6 : Int) else τ 0 3 + 1) = (if τ 0 3 = 6 then 5 else τ 0 3) + 1 := by split <;> omega
  have cb : 0 ≤ (if τ 0 3 = 6 then (5 : Int) else τ 0 3) ∧ (if τ 0 3 = 6 then (5 : Int) else τ 0 3) ≤ 5 := by split <;> omega
  rw [nx]
  generalize (if τ 0 3 = 6 then (5 : Int) else τ 0 3) = c at *
  clear nx h0 h1
  rw [ko_bnd]
  refine for_ok 161 (fun n x s => x = (n : Int) ∧ Fm [2] [3] τ s ∧ s 0 3 = c ∧ (∀ i, 0 ≤ i → i < (n : Int) → s 2 (161 * c + i) = τ 1 i) ∧ ∀ i, i < 161 * c → s 2 i = t 2 i) (by decide) ⟨rfl, fm, t3, fun i i0 i1 => absurd i1 (by rw [Int.natCast_zero]; omega), fun i _ => rfl⟩ ?_ ?_
  · rintro n x s hn ⟨rfl, fs, s3, hl, hg⟩
    have wc : w32 (w32 (161 * c) + (n : Int)) = 161 * c + n := by rw [w32_l, w32_sm (by omega)]
    rw [ko_t (by omega), ko_fld, s3, wc, ko_lod, ko_sto, ko_some, ko_jl, fs.1 1 (by decide) (by decide)]
    refine ⟨by omega, by omega, w32_nat (by omega), fs.up (by decide) (by decide), s3, fun i i0 i1 => ?_, fun i i0 => ?_⟩
    · simp only [up_g, true_and, and_true, false_and, and_false, Nat.reduceEqDiff, if_false, if_true]
      by_cases e : i = n
      · rw [if_pos (by omega), e]
      · rw [if_neg (by omega)]
        exact hl i i0 (by omega)
    · simp only [up_g, true_and, and_true, false_and, and_false, Nat.reduceEqDiff, if_false, if_true]
      rw [if_neg (by omega)]
      exact hg i i0
  · rintro x s ⟨rfl, fs, s3, hl, hg⟩
    rw [ko_f (by decide), ko_some, ko_jr, ko_fld, s3, w32_sm (x := c + 1) (by omega), ko_put, ko_some]
    exact ⟨fs.u0 (by decide), (by (simp only [up_g, Nat.reduceAdd, true_and, and_true, false_and, and_false, Nat.reduceEqDiff, if_false, if_true]) <;> (repeat (first | rw [if_neg (by omega)] | rw [if_pos (by omega)])) <;> (first | assumption | omega)), fun i i0 i1 => hl i i0 (by omega), fun i i0 i1 => (hg i i1).trans (ht i i0 i1)⟩
theorem keep2 {σ τ : St} (h : Rl σ τ) : Ok2 (fX10_keep (σ 50 2) σ) (fX12_keepsAhead τ) fun _ σ' _ τ' => Rl σ' τ' ∧ Fr kC σ σ' ∧ Fm [2] [3] τ τ' := by
  obtain ⟨⟨u1, u2, u3, u4, u5⟩, uj⟩ := h.c_RU
  have hlines := h.c_RB.1.2.1
  have hl0 := h.c_RB.1.2.2.1
  have hv : 0 ≤ σ 52 3 ∧ σ 52 3 ≤ 5 := ⟨u4, u5⟩
  have hb := hk_bd hv
  obtain ⟨σ1, e1, f1, hc⟩ := copyH (h := hk (σ 52 3)) (h2 := 3) (σ := σ) (by omega)
  have x52 : σ1 52 = σ 52 := f1 52 (by omega)
  unfold fX10_keep
  simp only [fld_eq, put_eq]
  rw [kept_at hv, e1, bnd_some, x52, sto_eq (by omega), dvc_eq (by decide)]
  have y52 : up σ1 54 (σ 52 3) (σ 50 2) 52 = σ 52 := x52
  rw [y52]
  have wn : irm (w32 (σ 52 3 + 1)) 6 = (σ 52 3 + 1) % 6 := by rw [w32_sm (by omega), irm_nn (by omega)]
  rw [wn]
  have y2 : up (up σ1 54 (σ 52 3) (σ 50 2)) 52 3 ((σ 52 3 + 1) % 6) 52 2 = τ 0 3 := by
    show σ1 52 2 = _
    rw [x52]
    exact u3
  rw [y2]
  have wc : w32 (τ 0 3 + 1) = τ 0 3 + 1 := w32_sm (by omega)
  rw [wc]
  refine ok_mono (P := fun _ s => Fr kC σ s ∧ (∀ k, k ≠ 52 → k ≠ 54 → s k = σ1 k) ∧ s 52 2 = (if τ 0 3 = 6 then 6 else τ 0 3 + 1) ∧ s 52 3 = (σ 52 3 + 1) % 6 ∧ s 54 (σ 52 3) = σ 50 2 ∧ ∀ i, i ≠ σ 52 3 → s 54 i = σ 54 i) ?_ ?_
  · have g54 : ∀ i, up σ1 54 (σ 52 3) (σ 50 2) 54 i = if i = σ 52 3 then σ 50 2 else σ 54 i := by
      intro i
      simp only [up_g, true_and, and_true, false_and, and_false, Nat.reduceEqDiff, if_false, if_true]
      rw [f1 54 (by omega)]
    have gk : Fr kC σ σ1 := fun k hkc => f1 k fun hb2 => hkc (kC_mem (by omega))
    by_cases c : τ 0 3 < 6
    · rw [if_pos c, ko_some, if_neg (by omega)]
      refine ⟨((gk.up (kC_mem (by omega))).up (kC_mem (by omega))).up (kC_mem (by omega)), fun k k0 k1 => ?_, rfl, rfl, ?_, fun i hi => ?_⟩
      · rw [up_ne k0, up_ne k0, up_ne k1]
      · rw [up_ne (by decide), up_ne (by decide), g54, if_pos rfl]
      · rw [up_ne (by decide), up_ne (by decide), g54, if_neg hi]
    · rw [if_neg c, ko_some, if_pos (by omega)]
      refine ⟨(gk.up (kC_mem (by omega))).up (kC_mem (by omega)), fun k k0 k1 => ?_, ?_, rfl, ?_, fun i hi => ?_⟩
      · rw [up_ne k0, up_ne k1]
      · rw [y2]
        omega
      · rw [up_ne (by decide), g54, if_pos rfl]
      · rw [up_ne (by decide), g54, if_neg hi]
  rintro _ s ⟨fs, sk, s2, s3, s54, s54'⟩
  refine ok_mono (m_keep u1 u2) ?_
  rintro _ t ⟨ft, t3, tn, to⟩
  refine ⟨?_, fs, ft⟩
  have lo : τ 0 3 = 6 ∨ 0 ≤ τ 0 3 ∧ τ 0 3 < 6 := by omega
  refine h.set_RU (fs.mono ?_) (ft.mono (by decide) (by decide)) ⟨⟨?_, ?_, ?_, ?_, ?_⟩, fun j j0 j1 => ?_⟩
  · decide
  · rw [t3]; split <;> omega
  · rw [t3]; split <;> omega
  · rw [s2, t3]
  · rw [s3]; omega
  · rw [s3]; omega
  · have e4 := ft.1 4 (by decide) (by decide)
    have e5 := ft.1 5 (by decide) (by decide)
    have e6 := ft.1 6 (by decide) (by decide)
    have j6 := ft.2 6 (by decide)
    have j7 := ft.2 7 (by decide)
    have m1 : t 1 = τ 1 := ft.1 1 (by decide) (by decide)
    rw [s3, t3, m1]
    rw [t3] at j1
    have sH : RH s (hk (σ 52 3)) τ := (h.c_RH.copy hc).gen (fun k k0 k1 => sk k (by omega) (by omega)) (fun _ _ _ => rfl) rfl rfl rfl rfl rfl
    -- an older row, which was row q
    have old : ∀ q, 0 ≤ q → q < τ 0 3 → (σ 52 3 - τ 0 3 + q) % 6 ≠ σ 52 3 → (∀ i, 0 ≤ i → i < 161 → t 2 (161 * j + i) = τ 2 (161 * q + i)) → RH s (hk ((σ 52 3 - τ 0 3 + q) % 6)) (vK t j) ∧ s 54 ((σ 52 3 - τ 0 3 + q) % 6) = t 2 (161 * j + 3) ∧ 0 ≤ t 2 (161 * j + 3) ∧ t 2 (161 * j + 3) ≤ τ 1 3 := by
      intro q q0 q1 qn tq
      obtain ⟨r1, r2, r3, r4, r5⟩ := uj q q0 q1
      have b2 := hk_bd (v := (σ 52 3 - τ 0 3 + q) % 6) (by omega)
      have b3 := hk_apart (u := (σ 52 3 - τ 0 3 + q) % 6) (v := σ 52 3) (by omega) hv qn
      refine ⟨r1.gen (fun k k0 k1 => ?_) (fun i i0 i1 => ?_) e4 e5 e6 j6 j7, ?_, ?_, ?_⟩
      · rw [sk k (by omega) (by omega), f1 k (by omega)]
      · show t 2 (161 * j + i) = τ 2 (161 * q + i)
        exact tq i i0 i1
      · rw [s54' _ qn, tq 3 (by decide) (by decide)]
        exact r2
      · rw [tq 3 (by decide) (by decide)]
        exact r3
      · rw [tq 3 (by decide) (by decide)]
        exact r4
    have mono : ∀ i, 0 ≤ i → i < j → t 2 (161 * i + 3) ≤ t 2 (161 * j + 3) := by
      intro i i0 i1
      rcases lo with e | e
      · simp only [if_pos e] at to tn j1
        have a1 : t 2 (161 * i + 3) = τ 2 (161 * (i + 1) + 3) := by
          rw [to _ (by omega) (by omega)]
          congr 1
          omega
        rw [a1]
        by_cases ej : j = 5
        · rw [ej, tn 3 (by decide) (by decide)]
          exact (uj (i + 1) (by omega) (by omega)).2.2.2.1
        · have a2 : t 2 (161 * j + 3) = τ 2 (161 * (j + 1) + 3) := by
            rw [to _ (by omega) (by omega)]
            congr 1
            omega
          rw [a2]
          exact (uj (j + 1) (by omega) (by omega)).2.2.2.2 (i + 1) (by omega) (by omega)
      · have ne : ¬ τ 0 3 = 6 := by omega
        simp only [if_neg ne] at to tn j1
        have a1 : t 2 (161 * i + 3) = τ 2 (161 * i + 3) := by
          rw [to _ (by omega) (by omega)]
          congr 1
          omega
        rw [a1]
        by_cases ej : j = τ 0 3
        · rw [ej, tn 3 (by decide) (by decide)]
          exact (uj i (by omega) (by omega)).2.2.2.1
        · have a2 : t 2 (161 * j + 3) = τ 2 (161 * j + 3) := by
            rw [to _ (by omega) (by omega)]
            congr 1
            omega
          rw [a2]
          exact (uj j (by omega) (by omega)).2.2.2.2 i (by omega) (by omega)
    have newest : (∀ i, 0 ≤ i → i < 161 → t 2 (161 * j + i) = τ 1 i) → RH s (hk (σ 52 3)) (vK t j) ∧ s 54 (σ 52 3) = t 2 (161 * j + 3) ∧ 0 ≤ t 2 (161 * j + 3) ∧ t 2 (161 * j + 3) ≤ τ 1 3 := by
      intro tq
      refine ⟨sH.gen (fun _ _ _ => rfl) (fun i i0 i1 => tq i i0 i1) e4 e5 e6 j6 j7, ?_, ?_, ?_⟩
      · rw [s54, tq 3 (by decide) (by decide)]
        exact hlines
      · rw [tq 3 (by decide) (by decide)]
        exact hl0
      · rw [tq 3 (by decide) (by decide)]
        exact Int.le_refl _
    rcases lo with e | e
    · simp only [if_pos e] at to tn j1 ⊢
      by_cases ej : j = 5
      · have es : ((σ 52 3 + 1) % 6 - 6 + j) % 6 = σ 52 3 := by omega
        rw [es]
        obtain ⟨z1, z2, z3, z4⟩ := newest fun i i0 i1 => by rw [ej]; exact tn i i0 i1
        exact ⟨z1, z2, z3, z4, mono⟩
      · have es : ((σ 52 3 + 1) % 6 - 6 + j) % 6 = (σ 52 3 - τ 0 3 + (j + 1)) % 6 := by omega
        rw [es]
        obtain ⟨z1, z2, z3, z4⟩ := old (j + 1) (by omega) (by omega) (by omega) fun i i0 i1 => by
          rw [to _ (by omega) (by omega)]
          congr 1
          omega
        exact ⟨z1, z2, z3, z4, mono⟩
    · have ne : ¬ τ 0 3 = 6 := by omega
      simp only [if_neg ne] at to tn j1 ⊢
      by_cases ej : j = τ 0 3
      · have es : ((σ 52 3 + 1) % 6 - (τ 0 3 + 1) + j) % 6 = σ 52 3 := by omega
        rw [es]
        obtain ⟨z1, z2, z3, z4⟩ := newest fun i i0 i1 => by rw [ej]; exact tn i i0 i1
        exact ⟨z1, z2, z3, z4, mono⟩
      · have es : ((σ 52 3 + 1) % 6 - (τ 0 3 + 1) + j) % 6 = (σ 52 3 - τ 0 3 + j) % 6 := by omega
        rw [es]
        obtain ⟨z1, z2, z3, z4⟩ := old j (by omega) (by omega) (by omega) fun i i0 i1 => by
          rw [to _ (by omega) (by omega)]
          congr 1
          omega
        exact ⟨z1, z2, z3, z4, mono⟩
