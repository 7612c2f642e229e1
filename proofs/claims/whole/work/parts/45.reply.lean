/-! CAT -/
def fil (σ : St) (k n : Nat) (v : Int) : St := fun k' i => if k' = k ∧ 0 ≤ i ∧ i < n then v else σ k' i
theorem fill_eq {ra rn : Nat} {v : Int} {σ : St} (hn : rn ≤ 100000) : fJ7_fill_53178 ra rn v σ = some (0, fil σ ra rn v) := by
  apply ok_eq
  unfold fJ7_fill_53178
  rw [ko_lb, ko_bnd]
  refine for_ok rn (fun i x σ' => x = (i : Int) ∧ σ' = fil σ ra i v) (by omega) ⟨rfl, ?_⟩ ?_ ?_
  · funext k j
    unfold fil
    rw [if_neg (by omega)]
  · rintro i x σ' hi ⟨rfl, rfl⟩
    rw [ko_t (by omega), ko_sto, ko_some, ko_jl, w32_nat (by omega)]
    refine ⟨by omega, rfl, ?_⟩
    funext k j
    simp only [up_g, fil]
    by_cases hc : k = ra ∧ j = i
    · rw [if_pos hc, if_pos (by omega)]
    · rw [if_neg hc]
      by_cases hd : k = ra ∧ 0 ≤ j ∧ j < i
      · rw [if_pos hd, if_pos (by omega)]
      · rw [if_neg hd, if_neg (by omega)]
  · rintro x σ' ⟨rfl, rfl⟩
    rw [ko_f (by omega), ko_some, ko_jr, ko_some]
    exact ⟨rfl, rfl⟩
theorem fil_at {σ : St} {k n : Nat} {v i : Int} (h : 0 ≤ i ∧ i < n) : fil σ k n v k i = v := if_pos ⟨rfl, h⟩
theorem fil_ne {σ : St} {k n k' : Nat} {v : Int} (h : k' ≠ k) : fil σ k n v k' = σ k' := by
  funext i
  exact if_neg (fun q => h q.1)
theorem Fr.fil {S : List Nat} {σ σ' : St} {k n : Nat} {v : Int} (h : Fr S σ σ') (hk : k ∈ S) : Fr S σ (fil σ' k n v) := fun k' hk' => (fil_ne (fun e : k' = k => hk' (by rw [e]; exact hk))).trans (h k' hk')
/-- none yet, or the minute -/
def nvR (a b : Int) : Prop := (a = -1 ∧ b = 100000000) ∨ (a = b ∧ 0 ≤ a ∧ a ≤ 99)
theorem cat_step {σ' τ' : St} {i f t l c : Int} (hf : 0 ≤ f ∧ f ≤ 7) (ht : 0 ≤ t ∧ t ≤ 7) (hl : 0 ≤ l) (hc : l < c ∧ c ≤ 99)
    (g0 : fX6_get 32 33 48 i 0 σ' = some (f, σ')) (g1 : fX6_get 32 33 48 i 1 σ' = some (t, σ')) (g2 : fX6_get 32 33 48 i 2 σ' = some (l, σ')) (g3 : fX6_get 32 33 48 i 3 σ' = some (c, σ'))
    (hr : ∀ p : Int, 0 ≤ p → p ≤ 7 → nvR (σ' 161 p) (τ' 35 p)) :
    Ok (fX4_carryOn i σ') fun _ s => Fr [161] σ' s ∧ ∀ τ2 : St, Fm [35] [] τ' τ2 → τ2 35 = (if l < τ' 35 f then τ' else up τ' 35 t (imn (τ' 35 t) c)) 35 → ∀ p : Int, 0 ≤ p → p ≤ 7 → nvR (s 161 p) (τ2 35 p) := by
  unfold fX4_carryOn
  rw [ko_bnd, g0, ko_some, ko_bnd, g1, ko_some, ko_bnd, g3, ko_some, ko_bnd, within_eq, if_pos hf, ko_some, ko_f (by decide), ko_bnd, within_eq, if_pos ht, ko_some, ko_f (by decide), ko_lod]
  refine ⟨by omega, ?_⟩
  have hrf := hr f hf.1 hf.2
  have hrt := hr t ht.1 ht.2
  by_cases c1 : σ' 161 f = -1
  · rw [ko_t c1, ko_some]
    refine ⟨Fr.rf, fun τ2 fm e p p0 p1 => ?_⟩
    rw [if_pos (by unfold nvR at hrf; omega)] at e
    rw [e]
    exact hr p p0 p1
  · rw [ko_f c1, ko_lod, ko_bnd, g2, ko_some]
    refine ⟨by omega, ?_⟩
    have e1 : σ' 161 f = τ' 35 f := by unfold nvR at hrf; omega
    by_cases c2 : l < σ' 161 f
    · rw [ko_t c2, ko_some]
      refine ⟨Fr.rf, fun τ2 fm e p p0 p1 => ?_⟩
      rw [if_pos (by omega)] at e
      rw [e]
      exact hr p p0 p1
    · have set : ∀ s : St, Fr [161] σ' s → s 161 = (up σ' 161 t c) 161 → imn (τ' 35 t) c = c → Fr [161] σ' s ∧ ∀ τ2 : St, Fm [35] [] τ' τ2 → τ2 35 = (if l < τ' 35 f then τ' else up τ' 35 t (imn (τ' 35 t) c)) 35 → ∀ p : Int, 0 ≤ p → p ≤ 7 → nvR (s 161 p) (τ2 35 p) := by
        intro s fs es em
        refine ⟨fs, fun τ2 fm e p p0 p1 => ?_⟩
        rw [if_neg (by omega), em] at e
        rw [e, es]
        simp only [up_g, true_and, and_true, false_and, and_false, Nat.reduceEqDiff, if_false, if_true]
        by_cases hp : p = t
        · rw [if_pos hp, if_pos hp]
          exact Or.inr ⟨rfl, by omega, by omega⟩
        · rw [if_neg hp, if_neg hp]
          exact hr p p0 p1
      rw [ko_f c2, ko_lod]
      refine ⟨by omega, ?_⟩
      by_cases c3 : σ' 161 t = -1
      · rw [ko_t c3, ko_sto, ko_some]
        refine ⟨by omega, set _ (Fr.rf.up (by decide)) rfl ?_⟩
        unfold imn
        rw [if_pos (by unfold nvR at hrt; omega)]
      · rw [ko_f c3, ko_lod]
        refine ⟨by omega, ?_⟩
        have e2 : σ' 161 t = τ' 35 t := by unfold nvR at hrt; omega
        by_cases c4 : c < σ' 161 t
        · rw [ko_t c4, ko_sto, ko_some]
          refine ⟨by omega, set _ (Fr.rf.up (by decide)) rfl ?_⟩
          unfold imn
          rw [if_pos (by omega)]
        · rw [ko_f c4, ko_some]
          refine ⟨Fr.rf, fun τ2 fm e p p0 p1 => ?_⟩
          rw [if_neg (by omega)] at e
          rw [e]
          simp only [up_g, true_and, and_true, false_and, and_false, Nat.reduceEqDiff, if_false, if_true]
          by_cases hp : p = t
          · rw [if_pos hp, hp]
            unfold imn
            rw [if_neg (by omega)]
            exact hrt
          · rw [if_neg hp]
            exact hr p p0 p1
theorem s_reply {σ τ : St} (h : Rl σ τ) {p1 p2 p3 : Int} : Sim (fX11_reply p1 p2 p3 σ) (fX12_reply p1 p2 p3 τ) := by
  unfold fX12_reply
  refine sim_t0 h ?_
  clear h
  intro τ h
  refine Sim.of h ?_
  obtain ⟨⟨w0, w1, w2, w3⟩, w4⟩ := h.c_RCat
  simp only [Nat.reduceAdd] at w0 w1 w4
  obtain ⟨n, hn⟩ : ∃ n : Nat, τ 0 52 = n := ⟨(τ 0 52).toNat, by omega⟩
  rw [hn] at w1 w2 w3 w4
  unfold fX11_reply
  by_cases c1 : 0 ≤ p1 ∧ p1 ≤ 7
  · by_cases c2 : 0 ≤ p2 ∧ p2 ≤ 99
    · by_cases c3 : 0 ≤ p3 ∧ p3 ≤ 7
      · unfold fX4_carried
        simp only [isIn_eq, within_eq, bnd_some, if_pos c1, if_pos c2, if_pos c3, Int.reduceEq, if_false]
        rw [fill_eq (by decide), bnd_some, sto_eq (by omega), bnd_assoc]
        -- the reference's start
        refine ok2_r (for_ok 8 (fun i x τ' => x = (i : Int) ∧ Fm [35] [] τ τ' ∧ ∀ j : Int, 0 ≤ j → j < i → τ' 35 j = if j = p1 then p2 else 100000000) (by decide) ⟨rfl, Fm.rf, fun j j0 j1 => absurd j1 (by rw [Int.natCast_zero]; omega)⟩ ?_ ?_)
        · rintro i x τ' hi ⟨rfl, fm, hj⟩
          rw [ko_t (by omega)]
          have key : ∀ v : Int, v = (if (i : Int) = p1 then p2 else 100000000) → ∀ j : Int, 0 ≤ j → j < ((i + 1 : Nat) : Int) → up τ' 35 i v 35 j = if j = p1 then p2 else 100000000 := by
            intro v hv j j0 j1
            simp only [up_g, true_and, and_true, false_and, and_false, Nat.reduceEqDiff, if_false, if_true]
            by_cases hji : j = i
            · rw [if_pos hji, hv, hji]
            · rw [if_neg hji]
              exact hj j j0 (by omega)
          by_cases c : (i : Int) = p1
          · rw [ko_t c, ko_sto, ko_some, ko_jl]
            exact ⟨by omega, w32_nat (by omega), fm.up (by decide) (by decide), key _ (by rw [if_pos c])⟩
          · rw [ko_f c, ko_sto, ko_some, ko_jl]
            exact ⟨by omega, w32_nat (by omega), fm.up (by decide) (by decide), key _ (by rw [if_neg c])⟩
        · rintro x τ' ⟨rfl, fm, hj⟩
          rw [ko_f (by decide), ko_some, ko_jr]
          -- the rounds
          have st : ∀ p : Int, 0 ≤ p → p ≤ 7 → nvR (up (fil σ 161 12 (-1)) 161 p1 p2 161 p) (τ' 35 p) := by
            intro p p0 p7
            rw [hj p p0 (by omega)]
            simp only [up_g, true_and, and_true, false_and, and_false, Nat.reduceEqDiff, if_false, if_true]
            by_cases hp : p = p1
            · rw [if_pos hp, if_pos hp]
              exact Or.inr ⟨rfl, by omega, by omega⟩
            · rw [if_neg hp, if_neg hp, fil_at (by omega)]
              exact Or.inl ⟨rfl, rfl⟩
          have fx : Fr [161] σ (up (fil σ 161 12 (-1)) 161 p1 p2) := (Fr.rf.fil (by decide)).up (by decide)
          clear hj
          generalize up (fil σ 161 12 (-1)) 161 p1 p2 = σ1 at st fx
          refine ok2_bnd (ok2_for n (fun i x σ' y τ' => x = (i : Int) ∧ y = (i : Int) ∧ Fr [161] σ σ' ∧ Fm [35] [] τ τ' ∧ ∀ p : Int, 0 ≤ p → p ≤ 7 → nvR (σ' 161 p) (τ' 35 p)) (by omega) ⟨rfl, rfl, fx, fm, st⟩ ?_ ?_)
          · clear st fm fx
            rintro i x σ' y τ' hi ⟨rfl, rfl, fx, fm, hr⟩
            have x32 : σ' 32 = σ 32 := fx 32 (by decide)
            have m0 : τ' 0 52 = τ 0 52 := fm.2 52 (by decide)
            rw [row_size, bnd_some, x32, w1, if_pos (by omega), fld_eq, m0, hn, if_pos (by omega)]
            refine ok2_bnd (ok2_for n (fun i x σ' y τ' => x = (i : Int) ∧ y = (i : Int) ∧ Fr [161] σ σ' ∧ Fm [35] [] τ τ' ∧ ∀ p : Int, 0 ≤ p → p ≤ 7 → nvR (σ' 161 p) (τ' 35 p)) (by omega) ⟨rfl, rfl, fx, fm, hr⟩ ?_ ?_)
            · clear hr fm fx x32 m0
              rintro k x σ' y τ' hk ⟨rfl, rfl, fx, fm, hr⟩
              have x32 : σ' 32 = σ 32 := fx 32 (by decide)
              have x33 : σ' 33 = σ 33 := fx 33 (by decide)
              have m0 : τ' 0 52 = τ 0 52 := fm.2 52 (by decide)
              have m31 : τ' 31 = τ 31 := fm.1 31 (by decide) (by decide)
              have m32 : τ' 32 = τ 32 := fm.1 32 (by decide) (by decide)
              have m33 : τ' 33 = τ 33 := fm.1 33 (by decide) (by decide)
              have m34 : τ' 34 = τ 34 := fm.1 34 (by decide) (by decide)
              obtain ⟨⟨q1, q2, q3, q4⟩, q5, q6, q7, q8, q9, q10, q11⟩ := w4 k (by omega) (by omega)
              have gg : ∀ c : Int, 0 ≤ c → c < 4 → fX6_get 32 33 48 k c σ' = some (σ 33 ((k : Int) * 4 + c), σ') := by
                intro c c0 c4
                rw [row_get (w := 4) (by rw [x32]; exact w0) (by omega) (by rw [x32]; omega) (by omega), x32, x33, w1, if_pos (by omega)]
              have g0 := gg 0 (by decide) (by decide)
              have g1 := gg 1 (by decide) (by decide)
              have g2 := gg 2 (by decide) (by decide)
              have g3 := gg 3 (by decide) (by decide)
              rw [Int.add_zero, q1] at g0
              rw [q2] at g1
              rw [q3] at g2
              rw [q4] at g3
              have hst := cat_step ⟨q5, q6⟩ ⟨q7, q8⟩ q9 ⟨q10, q11⟩ g0 g1 g2 g3 hr
              clear g0 g1 g2 g3 gg w4
              rw [row_size, bnd_some, x32, w1, if_pos (by omega), fld_eq, m0, hn, if_pos (by omega)]
              refine ok2_l (ok_mono hst ?_)
              rintro _ s ⟨fs, hs⟩
              have fx2 := fx.tr fs
              rw [lod_eq (by omega), m31, lod_eq (by omega), lod_eq (by omega), m33, w32_nat (by omega)]
              by_cases c : τ 33 k < τ' 35 (τ 31 k)
              · rw [if_pos c, ok2_some]
                rw [if_pos c] at hs
                exact ⟨rfl, rfl, fx2, fm, hs τ' Fm.rf rfl⟩
              · rw [if_neg c, lod_eq (by omega), m32, lod_eq (by omega), m32, lod_eq (by omega), lod_eq (by omega), m34, lesser_eq, bnd_some, sto_eq (by omega), ok2_some]
                rw [if_neg c] at hs
                exact ⟨rfl, rfl, fx2, fm.up (by decide) (by decide), hs _ (Fm.rf.up (by decide) (by decide)) rfl⟩
            · clear hr fm fx x32 m0
              rintro x σ' y τ' ⟨rfl, rfl, fx, fm, hr⟩
              have x32 : σ' 32 = σ 32 := fx 32 (by decide)
              have m0 : τ' 0 52 = τ 0 52 := fm.2 52 (by decide)
              rw [row_size, bnd_some, x32, w1, if_neg (by omega), fld_eq, m0, hn, if_neg (by omega), ok2_some, ok2_some, w32_nat (by omega)]
              exact ⟨rfl, rfl, fx, fm, hr⟩
          · clear st fm fx
            rintro x σ' y τ' ⟨rfl, rfl, fx, fm, hr⟩
            have x32 : σ' 32 = σ 32 := fx 32 (by decide)
            have m0 : τ' 0 52 = τ 0 52 := fm.2 52 (by decide)
            have q := hr p3 (by omega) (by omega)
            have fx := fx.mono (T := wX) (by decide)
            have fm := fm.mono (C2 := wM) (J2 := wJ) (by decide) (by decide)
            rw [row_size, bnd_some, x32, w1, if_neg (by omega), fld_eq, m0, hn, if_neg (by omega), ok2_some]
            rw [lod_eq (k := 161) (by omega), lod_eq (k := 35) (by omega), bnd_some]
            rcases q with ⟨q1, q2⟩ | ⟨q1, q2, q3⟩
            · rw [if_pos q2, ok2_some]
              exact ⟨q1.symm, fx, fm⟩
            · rw [if_neg (by omega), lod_eq (by omega), ok2_some]
              exact ⟨q1.symm, fx, fm⟩
      · simp only [isIn_eq, within_eq, bnd_some, if_pos c1, if_pos c2, if_neg c3, Int.reduceEq, if_false, if_true]
        rw [ok2_some]
        exact ⟨rfl, Fr.rf, Fm.rf⟩
    · simp only [isIn_eq, within_eq, bnd_some, if_pos c1, if_neg c2, Int.reduceEq, if_false, if_true]
      rw [ok2_some]
      exact ⟨rfl, Fr.rf, Fm.rf⟩
  · simp only [isIn_eq, within_eq, bnd_some, if_neg c1, if_true]
    rw [ok2_some]
    exact ⟨rfl, Fr.rf, Fm.rf⟩
