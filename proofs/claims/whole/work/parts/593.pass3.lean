/-! a minute: draws, what the law tells -/
theorem tells_bd {p d c v : Int} {τ τ' : St} (hc : 0 ≤ c) (e : fX12_lawTells p d c τ = some (v, τ')) : 0 ≤ v ∧ v ≤ c := by
  have o : Ok (fX12_lawTells p d c τ) fun x _ => x = v := ⟨v, τ', e, rfl⟩
  unfold fX12_lawTells at o
  rw [ko_bnd] at o
  obtain ⟨r, s, _, o⟩ := o
  rw [ko_bnd] at o
  obtain ⟨y, s2, _, o⟩ := o
  rw [held_eq, bnd_some, ko_some] at o
  rw [← o]
  unfold hld
  (repeat' split) <;> omega
theorem speaks_bd {p v : Int} {τ τ' : St} (e : fX12_speaksOf p τ = some (v, τ')) : 0 ≤ v ∧ v ≤ 1000 := by
  have o : Ok (fX12_speaksOf p τ) fun x s => x = v := ⟨v, τ', e, rfl⟩
  unfold fX12_speaksOf at o
  rw [ko_bnd] at o
  obtain ⟨r, s, _, o⟩ := o
  rw [ko_bnd] at o
  obtain ⟨y, s2, _, o⟩ := o
  rw [lod_eq (by decide), ko_bnd] at o
  obtain ⟨z, s3, e3, o⟩ := o
  rw [ko_some] at o
  rw [← o]
  exact tells_bd (by decide) e3
theorem hears_bd {p q v : Int} {τ τ' : St} (e : fX12_hearsOf p q τ = some (v, τ')) : 0 ≤ v ∧ v ≤ 1000 := by
  have o : Ok (fX12_hearsOf p q τ) fun x s => x = v := ⟨v, τ', e, rfl⟩
  unfold fX12_hearsOf at o
  rw [ko_bnd] at o
  obtain ⟨y, s2, _, o⟩ := o
  rw [lod_eq (by decide), ko_bnd] at o
  obtain ⟨z, s3, e3, o⟩ := o
  rw [ko_some] at o
  rw [← o]
  exact tells_bd (by decide) e3
theorem hears2 {σ τ : St} (hR : RH σ 3 τ) (hL : RLaw σ 17 τ) {p1 p2 : Int} (c1 : 0 ≤ p1 ∧ p1 < τ 0 7) (c2 : 0 ≤ p2 ∧ p2 < τ 0 6) : Ok2 (fX3_tells 261 p1 p2 σ) (fX12_hearsOf p1 p2 τ) fun v σ' v' τ' => v' = v ∧ Fr [150, 151] σ σ' ∧ Fm [21, 22] [] τ τ' := by
  obtain ⟨_, _, _, _, _, _, _, _, _, _, _, _, _, _, q1, q2, _⟩ := hR.2.2.2 p1 c1.1 c1.2
  have ne : ¬ p1 = -1 := by omega
  have e1 : wT τ p1 p2 1 = τ 6 p1 := by
    unfold wT
    rw [if_neg (by decide), if_pos rfl, if_neg ne]
  have ct := c_tells (p := 1) (c := 1000) (d := w32 (100 * τ 6 p1)) hL (by decide) rfl (by rw [e1]; rfl) (c_look (pe := p1) (po := p2) hR (Or.inr c1) c2)
  refine ok_mono ct ?_
  rintro v σ' ⟨fx, hv⟩
  unfold fX12_hearsOf
  rw [ko_bnd]
  refine ok_mono (m_asks (pe := p1) (po := p2) hR (Or.inr c1) c2) ?_
  rintro _ t ⟨fm, hW⟩
  rw [lod_eq (by decide), hW 1 (by decide) (by decide), e1, ko_bnd]
  have hL2 : RLaw σ 17 t := hL.cg (C := []) (D := [21]) (J := []) Fr.rf fm (by decide)
  have w6 : w32 (100 * τ 6 p1) = 100 * τ 6 p1 := w32_sm (by omega)
  refine ok_mono (m_law (p := 1) (d := w32 (100 * τ 6 p1)) (c := 1000) hL2 (by rw [w6]; omega) hW) ?_
  rintro v' t' ⟨fm2, hv'⟩
  have key : lawV t (wT τ p1 p2) 1 (w32 (100 * τ 6 p1)) 1000 v := by
    unfold lawV firstL fitL at hv ⊢
    rw [fm.1 10 (by decide) (by decide), fm.1 11 (by decide) (by decide), fm.1 12 (by decide) (by decide), fm.1 13 (by decide) (by decide), fm.1 14 (by decide) (by decide), fm.1 15 (by decide) (by decide), fm.1 16 (by decide) (by decide)]
    exact hv
  rw [ko_some]
  exact ⟨lawV_uniq hv' key, fx, (fm.mono (by decide) (by decide)).tr (fm2.mono (by decide) (by decide))⟩
/-- two runs with what is known of the right one's answer -/
theorem ok2_and {α β : Type} {h1 : Rs α} {h2 : Rs β} {P : α → St → β → St → Prop} {Q : β → Prop} (o : Ok2 h1 h2 P) (hQ : ∀ y τ, h2 = some (y, τ) → Q y) : Ok2 h1 h2 fun x σ y τ => P x σ y τ ∧ Q y := by
  obtain ⟨x, σ, e, y, τ, e2, p⟩ := o
  exact ⟨x, σ, e, y, τ, e2, p, hQ y τ e2⟩
theorem happens2 {t : Int} {σ τ : St} (h : MQm t σ τ) {v : Int} (v0 : 0 ≤ v) (v1 : v ≤ 1000) : Ok2 (fX1_happens v σ) (fX12_happens v τ) fun r σ' r' τ' => r' = r ∧ Mv t σ τ σ' τ' ∧ σ' 11 = σ 11 := by
  have a1 := h.1.1.1
  have hh := h
  obtain ⟨_, _, _, _, _, _, h1, h2, h3⟩ := hh
  unfold fX1_happens fX12_happens fX2_draw fX12_draw
  simp only [fld_eq, put_eq]
  rw [h1, h2]
  rcases h3 with rfl | rfl
  · rw [if_pos rfl, if_pos rfl]
    by_cases c : 0 < v
    · have l2 : ∀ {β : Type} {σ : St} {g : Int → Rs β}, lod σ 1 161 2 g = g (σ 1 2) := fun {β σ g} => lod_eq (by decide)
      have e : up σ 3 0 (w32 (w32 (1664525 * σ 3 0) + 1013904223)) 3 0 = w32 (w32 (1664525 * σ 3 0) + 1013904223) := (by (simp only [up_g, Nat.reduceAdd, true_and, and_true, false_and, and_false, Nat.reduceEqDiff, if_false, if_true]) <;> (repeat (first | rw [if_neg (by omega)] | rw [if_pos (by omega)])) <;> (first | assumption | omega))
      have e' : up τ 1 2 (w32 (w32 (1664525 * τ 1 2) + 1013904223)) 1 2 = w32 (w32 (1664525 * τ 1 2) + 1013904223) := (by (simp only [up_g, Nat.reduceAdd, true_and, and_true, false_and, and_false, Nat.reduceEqDiff, if_false, if_true]) <;> (repeat (first | rw [if_neg (by omega)] | rw [if_pos (by omega)])) <;> (first | assumption | omega))
      rw [if_pos c, if_pos c, if_pos (show (0 : Int) < 1000 by decide), e, dvc_eq (by decide), bnd_some, l2, sto_eq (by decide), l2, e', dvc_eq (by decide), bnd_some, a1]
      have g : Mv 0 σ τ (up σ 3 0 (w32 (w32 (1664525 * τ 1 2) + 1013904223))) (up τ 1 2 (w32 (w32 (1664525 * τ 1 2) + 1013904223))) := Mv.nb h (by repeat (first | exact Fr.rf | exact fx | refine Fr.up ?_ (by decide))) (by repeat (first | exact Fm.rf | exact fm | exact fm.mono (by decide) (by decide) | refine Fm.u0 ?_ (by decide) | refine Fm.up ?_ (by decide) (by decide))) rfl (h.1.dra (v := w32 (w32 (1664525 * τ 1 2) + 1013904223)))
      by_cases d : irm (iushr (w32 (w32 (1664525 * τ 1 2) + 1013904223)) 8) 1000 < v
      · rw [if_pos d, if_pos d, ok2_some]
        exact ⟨rfl, g, rfl⟩
      · rw [if_neg d, if_neg d, ok2_some]
        exact ⟨rfl, g, rfl⟩
    · rw [if_neg c, if_neg c, ok2_some]
      exact ⟨rfl, Mv.rf h, rfl⟩
  · rw [if_neg (show ¬ ((1 : Int) = 0) by decide), if_neg (show ¬ ((1 : Int) = 0) by decide), w32_sm (x := 2 * v) (by omega)]
    by_cases c : 0 < v
    · rw [if_pos c]
      by_cases d : v < 500
      · rw [if_pos d, if_pos (by omega), ok2_some]
        exact ⟨rfl, Mv.rf h, rfl⟩
      · rw [if_neg d, if_neg (by omega), ok2_some]
        exact ⟨rfl, Mv.rf h, rfl⟩
    · rw [if_neg c, if_pos (by omega), ok2_some]
      exact ⟨rfl, Mv.rf h, rfl⟩
/-- one asks how likely, and draws -/
theorem speakdraw2 {t : Int} {σ τ : St} (h : MQm t σ τ) {p : Int} (c1 : 0 ≤ p ∧ p < τ 0 7) (hs : 0 < τ 1 (41 + p)) {γ δ : Type} {k1 : Int → St → Rs γ} {k2 : Int → St → Rs δ} {P : γ → St → δ → St → Prop} (hk : ∀ r σ' τ', Mv t σ τ σ' τ' → σ' 11 = σ 11 → Ok2 (k1 r σ') (k2 r τ') P) : Ok2 (bnd (fX3_tells 260 p (τ 1 (41 + p) - 1) σ) fun r3 s4 => bnd (fX1_happens r3 s4) k1) (bnd (fX12_speaksOf p τ) fun r3 s4 => bnd (fX12_happens r3 s4) k2) P := by
  refine ok2_bnd (ok2_mono (ok2_and (speaks2 h.1 h.2.1 c1 hs) fun y τ e => speaks_bd e) ?_)
  rintro v σ' v' τ' ⟨⟨rfl, fx, fm⟩, v0, v1⟩
  have g := Mv.wk h fx fm
  refine ok2_bnd (ok2_mono (happens2 g.1 v0 v1) ?_)
  rintro r σ2 r' τ2 ⟨rfl, g2, e2⟩
  exact hk _ _ _ (g.tr g2) (e2.trans (fx 11 (by decide)))
theorem heardraw2 {t : Int} {σ τ : St} (h : MQm t σ τ) {p q : Int} (c1 : 0 ≤ p ∧ p < τ 0 7) (c2 : 0 ≤ q ∧ q < τ 0 6) {γ δ : Type} {k1 : Int → St → Rs γ} {k2 : Int → St → Rs δ} {P : γ → St → δ → St → Prop} (hk : ∀ r σ' τ', Mv t σ τ σ' τ' → σ' 11 = σ 11 → Ok2 (k1 r σ') (k2 r τ') P) : Ok2 (bnd (fX3_tells 261 p q σ) fun r3 s4 => bnd (fX1_happens r3 s4) k1) (bnd (fX12_hearsOf p q τ) fun r3 s4 => bnd (fX12_happens r3 s4) k2) P := by
  refine ok2_bnd (ok2_mono (ok2_and (hears2 h.1 h.2.1 c1 c2) fun y τ e => hears_bd e) ?_)
  rintro v σ' v' τ' ⟨⟨rfl, fx, fm⟩, v0, v1⟩
  have g := Mv.wk h fx fm
  refine ok2_bnd (ok2_mono (happens2 g.1 v0 v1) ?_)
  rintro r σ2 r' τ2 ⟨rfl, g2, e2⟩
  exact hk _ _ _ (g.tr g2) (e2.trans (fx 11 (by decide)))
