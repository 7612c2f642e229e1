/-! GOES -/
def smW (f : Int → Int) : Nat → Int
  | 0 => 0
  | n + 1 => w32 (smW f n + f n)
theorem smW_cong {f g : Int → Int} : ∀ {n : Nat}, (∀ k : Nat, k < n → f k = g k) → smW f n = smW g n := by
  intro n
  induction n with
  | zero => intro _; rfl
  | succ n ih =>
    intro h
    rw [smW, smW, ih (fun k hk => h k (by omega)), h n (by omega)]
theorem m_sum {τ : St} {b : Int} {n : Nat} (hn : n ≤ 20) (h0 : 0 ≤ b) (h1 : b + n ≤ 161) : fX12_sumOf b n τ = some (smW (fun i => τ 1 (b + i)) n, τ) := by
  apply ok_eq
  unfold fX12_sumOf
  rw [ko_bnd]
  refine for_ok n (fun i x t => x = (smW (fun i => τ 1 (b + i)) i, (i : Int)) ∧ t = τ) (by omega) ⟨rfl, rfl⟩ ?_ ?_
  · rintro i x t hi ⟨rfl, rfl⟩
    have wb : w32 (b + (i : Int)) = b + i := w32_sm (by omega)
    dsimp only
    rw [ko_t (by omega), wb, ko_lod, ko_lb, ko_some, ko_jl, w32_nat (by omega)]
    exact ⟨by omega, rfl, rfl⟩
  · rintro x t ⟨rfl, rfl⟩
    dsimp only
    rw [ko_f (by omega), ko_some, ko_jr, ko_some]
    exact ⟨rfl, rfl⟩
theorem c_sum {σ : St} {w : Int} {n m : Nat} (hn : σ 3 5 = n) (hm : σ 3 4 = m) (n20 : n ≤ 20) (m12 : m ≤ 12) : fX2_sumOf w σ = some (if w = 0 then smW (σ 14) n else if w = 1 then smW (σ 15) n else if w = 2 then smW (σ 6) m else if w = 3 then smW (σ 5) m else 0, σ) := by
  apply ok_eq
  unfold fX2_sumOf
  rw [ko_bnd]
  refine for_ok n (fun i x t => x = (if w = 0 then smW (σ 14) i else if w = 1 then smW (σ 15) i else 0, (i : Int)) ∧ t = σ) (by omega) ⟨?_, rfl⟩ ?_ ?_
  · simp only [smW, ite_self]
    rfl
  · rintro i x t hi ⟨rfl, rfl⟩
    dsimp only
    rw [ko_fld, hn, ko_t (by omega)]
    by_cases w0 : w = 0
    · subst w0
      simp only [Int.reduceEq, if_true, if_false]
      rw [lod_eq (by omega), lb_eq, bnd_some, ko_some, ko_jl, w32_nat (by omega)]
      exact ⟨rfl, rfl⟩
    · by_cases w1 : w = 1
      · subst w1
        simp only [Int.reduceEq, if_true, if_false]
        rw [bnd_some, lod_eq (by omega), lb_eq, ko_some, ko_jl, w32_nat (by omega)]
        exact ⟨rfl, rfl⟩
      · simp only [w0, w1, if_false]
        rw [bnd_some, ko_some, ko_jl, w32_nat (by omega)]
        exact ⟨rfl, rfl⟩
  · rintro x t ⟨rfl, rfl⟩
    dsimp only
    rw [ko_fld, hn, ko_f (by omega), ko_some, ko_jr, ko_bnd]
    refine for_ok m (fun i x s => x = (if w = 0 then smW (t 14) n else if w = 1 then smW (t 15) n else if w = 2 then smW (t 6) i else if w = 3 then smW (t 5) i else 0, (i : Int)) ∧ s = t) (by omega) ⟨?_, rfl⟩ ?_ ?_
    · simp only [smW, ite_self]
      rfl
    · rintro i x s hi ⟨rfl, rfl⟩
      dsimp only
      rw [ko_fld, hm, ko_t (by omega)]
      by_cases w2 : w = 2
      · subst w2
        simp only [Int.reduceEq, if_true, if_false]
        rw [lod_eq (by omega), lb_eq, bnd_some, ko_some, ko_jl, w32_nat (by omega)]
        exact ⟨rfl, rfl⟩
      · by_cases w3 : w = 3
        · subst w3
          simp only [Int.reduceEq, if_true, if_false]
          rw [bnd_some, lod_eq (by omega), lb_eq, ko_some, ko_jl, w32_nat (by omega)]
          exact ⟨rfl, rfl⟩
        · simp only [w2, w3, if_false]
          rw [bnd_some, ko_some, ko_jl, w32_nat (by omega)]
          exact ⟨rfl, rfl⟩
    · rintro x s ⟨rfl, rfl⟩
      dsimp only
      rw [ko_fld, hm, ko_f (by omega), ko_some, ko_jr, ko_some]
      exact ⟨rfl, rfl⟩
theorem s_goes {σ τ : St} (h : Rl σ τ) {p1 p2 : Int} : Sim (fX11_goes p1 p2 σ) (fX12_goes p1 p2 τ) := by
  unfold fX12_goes
  refine sim_t0 h ?_
  clear h
  intro τ h
  show Ok2 _ _ fun r σ' r' τ' => r' = r ∧ Rl σ' τ'
  unfold fX11_goes
  rw [within_eq, isIn_eq, bnd_some, bnd_some]
  by_cases c : 1 ≤ p1 ∧ p1 ≤ 60
  · rw [if_pos c, if_neg (show ¬ ((1 : Int) = 0) by decide), if_neg (show ¬ ((1 : Int) = 0) by decide), within_eq, isIn_eq, bnd_some, bnd_some]
    by_cases d : 0 ≤ p2 ∧ p2 ≤ 3
    · rw [if_pos d, if_neg (show ¬ ((1 : Int) = 0) by decide), if_neg (show ¬ ((1 : Int) = 0) by decide)]
      refine think0 h ?_
      intro _ _ σ1 τ1 hT
      obtain ⟨n, rfl⟩ : ∃ n : Nat, p1 = n := ⟨p1.toNat, by omega⟩
      refine ok2_bnd (ok2_for n (fun i x σ' y τ' => x = (i : Int) ∧ y = (i : Int) ∧ Th σ τ σ' τ') (by omega) ⟨rfl, rfl, hT⟩ ?_ ?_)
      · rintro i x σ' y τ' hi ⟨rfl, rfl, g⟩
        rw [if_pos (by omega), if_pos (by omega)]
        refine ok2_bnd (ok2_mono (think1 g) ?_)
        rintro r σ2 _ τ2 ⟨rfl, g2⟩
        rw [ok2_some, w32_nat (by omega)]
        exact ⟨rfl, rfl, g2⟩
      · rintro x σ' y τ' ⟨rfl, rfl, g⟩
        rw [if_neg (by omega), if_neg (by omega), ok2_some]
        show Ok2 (bnd _ _) (bnd _ _) _
        have hR : RH σ' 3 τ' := by
          have q := g.1.1
          exact q.cg (C := [152]) (D := []) (J := []) (fun k hk => by rw [up_ne (fun e => hk (by rw [e]; decide))]) Fm.rf (by decide)
        obtain ⟨⟨a1, a2, a3, a4, a5, a6⟩, ⟨b1, b2, b3, b4, b5, b6⟩, hp, hq⟩ := hR
        obtain ⟨N, hN⟩ : ∃ n : Nat, τ' 0 7 = n := ⟨(τ' 0 7).toNat, by omega⟩
        obtain ⟨M, hM⟩ : ∃ n : Nat, τ' 0 6 = n := ⟨(τ' 0 6).toNat, by omega⟩
        rw [c_sum (n := N) (m := M) (by omega) (by omega) (by omega) (by omega), bnd_some, fld_eq, fld_eq, fld_eq, fld_eq, hN, hM, m_sum (by omega) (by decide) (by omega), m_sum (by omega) (by decide) (by omega), m_sum (by omega) (by decide) (by omega), m_sum (by omega) (by decide) (by omega)]
        have k14 : smW (σ' 14) N = smW (fun i => τ' 1 (101 + i)) N := smW_cong fun k hk => (hq k (by omega) (by omega)).2.2.2.2.2.1
        have k15 : smW (σ' 15) N = smW (fun i => τ' 1 (121 + i)) N := smW_cong fun k hk => (hq k (by omega) (by omega)).2.2.2.2.2.2.1
        have k6 : smW (σ' 6) M = smW (fun i => τ' 1 (17 + i)) M := smW_cong fun k hk => (hp k (by omega) (by omega)).2.2.1
        have k5 : smW (σ' 5) M = smW (fun i => τ' 1 (5 + i)) M := smW_cong fun k hk => (hp k (by omega) (by omega)).2.1
        rw [k14, k15, k6, k5]
        have fin : ∀ v : Int, Ok2 (bnd (fX2_copyFrom 3 171 σ') fun r22 s23 => some (v, s23)) (bnd (fX12_endsThought τ') fun r43 s44 => some (v, s44)) fun r σ' r' τ' => r' = r ∧ Rl σ' τ' := by
          intro v
          refine think2 h g.2.1 g.2.2 ?_
          intro _ _ σ2 τ2 h2
          rw [ok2_some]
          exact ⟨rfl, h2⟩
        rcases (show p2 = 0 ∨ p2 = 1 ∨ p2 = 2 ∨ p2 = 3 by omega) with rfl | rfl | rfl | rfl <;> simp only [Int.reduceEq, if_true, if_false, bnd_some] <;> exact fin _
    · rw [if_neg d, if_pos rfl, if_pos rfl, ok2_some]
      exact ⟨rfl, h⟩
  · rw [if_neg c, if_pos rfl, if_pos rfl, ok2_some]
    exact ⟨rfl, h⟩
/-! SOONEST -/
theorem itr_mono {β γ : Type} {body : β → St → Rs (β ⊕ γ)} {r : γ × St} : ∀ {n m : Nat} {x : β} {σ : St}, n ≤ m → itr n body x σ = some r → itr m body x σ = some r := by
  intro n
  induction n with
  | zero => intro m x σ _ h; cases h
  | succ n ih =>
    intro m x σ hm h
    obtain ⟨m, rfl⟩ : ∃ k, m = k + 1 := ⟨m - 1, by omega⟩
    unfold itr at h ⊢
    split at h
    · cases h
    · next x' σ' e => exact ih (by omega) h
    · next y σ' e => exact h
theorem ok2_fore {β γ β2 γ2 : Type} {b1 : β → St → Rs (β ⊕ γ)} {b2 : β2 → St → Rs (β2 ⊕ γ2)} {P : γ → St → γ2 → St → Prop} {x0 : β} {σ0 : St} {y0 : β2} {τ0 : St} (n : Nat) (I : Nat → β → St → β2 → St → Prop) (hn : n < 100000000) (h0 : I 0 x0 σ0 y0 τ0)
    (hs : ∀ i x σ y τ, i < n → I i x σ y τ → Ok2 (b1 x σ) (b2 y τ) fun r σ' q τ' => match r, q with
      | .inl x', .inl y' => I (i + 1) x' σ' y' τ'
      | .inr r, .inr q => P r σ' q τ'
      | _, _ => False)
    (he : ∀ x σ y τ, I n x σ y τ → ∃ r σ' q τ', b1 x σ = some (.inr r, σ') ∧ itr 2 b2 y τ = some (q, τ') ∧ P r σ' q τ') : Ok2 (itr FUEL b1 x0 σ0) (itr FUEL b2 y0 τ0) P := by
  have key : ∀ (d i N M : Nat) (x : β) (σ : St) (y : β2) (τ : St), i + d = n → d + 1 < N → d + 1 < M → I i x σ y τ → Ok2 (itr N b1 x σ) (itr M b2 y τ) P := by
    intro d
    induction d with
    | zero =>
      intro i N M x σ y τ hi hN hM hI
      have hi : i = n := by omega
      subst hi
      obtain ⟨r, σ', q, τ', e1, e2, hP⟩ := he x σ y τ hI
      have e1' : itr 1 b1 x σ = some (r, σ') := by
        unfold itr
        rw [e1]
      exact ⟨r, σ', itr_mono (by omega) e1', q, τ', itr_mono (by omega) e2, hP⟩
    | succ d ih =>
      intro i N M x σ y τ hi hN hM hI
      obtain ⟨N, rfl⟩ : ∃ K, N = K + 1 := ⟨N - 1, by omega⟩
      obtain ⟨M, rfl⟩ : ∃ K, M = K + 1 := ⟨M - 1, by omega⟩
      obtain ⟨r, σ', e, q, τ', e2, h⟩ := hs i x σ y τ (by omega) hI
      unfold itr
      rw [e, e2]
      cases r with
      | inl x' => cases q with
        | inl y' => exact ih (i + 1) N M x' σ' y' τ' (by omega) (by omega) (by omega) h
        | inr q => exact False.elim h
      | inr r => cases q with
        | inl y' => exact False.elim h
        | inr q => exact ⟨r, σ', rfl, q, τ', rfl, h⟩
  exact key n 0 FUEL FUEL x0 σ0 y0 τ0 (by omega) (by unfold FUEL; omega) (by unfold FUEL; omega) h0
theorem itr2_l {β γ : Type} {body : β → St → Rs (β ⊕ γ)} {x x' : β} {y : γ} {σ σ' σ2 : St} (h : body x σ = some (.inl x', σ')) (h2 : body x' σ' = some (.inr y, σ2)) : itr 2 body x σ = some (y, σ2) := by
  unfold itr
  rw [h]
  show itr 1 body x' σ' = _
  unfold itr
  rw [h2]
theorem itr2_r {β γ : Type} {body : β → St → Rs (β ⊕ γ)} {x : β} {y : γ} {σ σ' : St} (h : body x σ = some (.inr y, σ')) : itr 2 body x σ = some (y, σ') := by
  unfold itr
  rw [h]
theorem s_soonest {σ τ : St} (h : Rl σ τ) {p1 : Int} : Sim (fX11_soonest p1 σ) (fX12_soonest p1 τ) := by
  unfold fX12_soonest
  refine sim_t0 h ?_
  clear h
  intro τ h
  have b6 := h.c_RH.1.2.2.2.2.2
  have b7 := h.c_RH.2.1.2.2.2.1
  show Ok2 _ _ fun r σ' r' τ' => r' = r ∧ Rl σ' τ'
  unfold fX11_soonest
  rw [hasPerson_eq, isPerson_eq, bnd_some, bnd_some, b6]
  by_cases c : 0 ≤ p1 ∧ p1 < τ 0 7
  · rw [if_pos c, if_neg (show ¬ ((1 : Int) = 0) by decide), if_neg (show ¬ ((1 : Int) = 0) by decide)]
    refine think0 h ?_
    intro _ _ σ1 τ1 hT
    have w141 : w32 (141 + p1) = 141 + p1 := w32_sm (by omega)
    have acc : ∀ σ' τ', Th σ τ σ' τ' → σ' 16 p1 = τ' 1 (141 + p1) - 1 := by
      intro σ' τ' g
      have q := g.1.1.2.2.2 p1 c.1 (by rw [g.2.2.1.2 7 (by decide)]; exact c.2)
      exact q.2.2.2.2.2.2.2.1
    refine ok2_bnd (ok2_mono (P := fun r σ' r' τ' => TwX σ σ' ∧ TwM τ τ' ∧ ((r' = r ∧ r ≤ 60 ∧ ¬ σ' 16 p1 = -1) ∨ (r' = 61 ∧ σ' 16 p1 = -1))) (ok2_fore 60 (fun i x σ' y τ' => x = (i : Int) ∧ y = (i : Int) ∧ Th σ τ σ' τ') (by decide) ⟨rfl, rfl, hT⟩ ?_ ?_) ?_)
    · rintro i x σ' y τ' hi ⟨rfl, rfl, g⟩
      have a := acc _ _ g
      rw [lod_eq (by omega), a, if_neg (show ¬ (60 : Int) < i by omega), w141, lod_eq (by omega)]
      by_cases d : τ' 1 (141 + p1) = 0
      · rw [if_pos (show τ' 1 (141 + p1) - 1 = -1 by omega), if_pos (show (i : Int) < 60 by omega), if_pos d]
        refine ok2_bnd (ok2_mono (think1 g) ?_)
        rintro r σ2 _ τ2 ⟨rfl, g2⟩
        rw [lb_eq, ok2_some, w32_nat (by omega)]
        exact ⟨rfl, rfl, g2⟩
      · rw [if_neg (show ¬ τ' 1 (141 + p1) - 1 = -1 by omega), if_neg d, ok2_some]
        exact ⟨g.2.1, g.2.2, Or.inl ⟨rfl, by omega, by omega⟩⟩
    · rintro x σ' y τ' ⟨rfl, rfl, g⟩
      have a := acc _ _ g
      by_cases d : τ' 1 (141 + p1) = 0
      · obtain ⟨r, σ2, e1, _, τ2, e2, rfl, g2⟩ := think1 g
        refine ⟨60, σ', 61, τ2, ?_, ?_, g.2.1, g2.2.2, Or.inr ⟨rfl, by omega⟩⟩
        · rw [lod_eq (by omega), a, if_pos (show τ' 1 (141 + p1) - 1 = -1 by omega), if_neg (by decide)]
          rfl
        · refine itr2_l (x' := 61) (σ' := τ2) ?_ ?_
          · rw [if_neg (by decide), w141, lod_eq (by omega), if_pos d, e2, bnd_some, lb_eq]
            rfl
          · rw [if_pos (by decide)]
      · refine ⟨60, σ', 60, τ', ?_, ?_, g.2.1, g.2.2, Or.inl ⟨rfl, by decide, by omega⟩⟩
        · rw [lod_eq (by omega), a, if_neg (show ¬ τ' 1 (141 + p1) - 1 = -1 by omega)]
          rfl
        · refine itr2_r ?_
          rw [if_neg (by decide), w141, lod_eq (by omega), if_neg d]
          rfl
    · rintro r σ' r' τ' ⟨hX, hM, hr⟩
      rw [lod_eq (by omega)]
      rcases hr with ⟨rfl, hr, ha⟩ | ⟨rfl, ha⟩
      · rw [if_neg ha, bnd_some]
        refine think2 h hX hM ?_
        intro _ _ σ2 τ2 h2
        rw [if_neg (by decide), if_neg (by omega), ok2_some]
        exact ⟨rfl, h2⟩
      · rw [if_pos ha, bnd_some]
        refine think2 h hX hM ?_
        intro _ _ σ2 τ2 h2
        rw [if_pos rfl, if_pos (by decide), ok2_some]
        exact ⟨rfl, h2⟩
  · rw [if_neg c, if_pos rfl, if_pos rfl, ok2_some]
    exact ⟨rfl, h⟩
