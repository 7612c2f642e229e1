/-! TEXT: the relation's pieces when what was told stays -/
theorem Rl.set_RLaw_RCalls_REven_RStreet_RU_RP_RF_RS {σ σ' τ τ' : St} (h : Rl σ τ) (fx : Fr [1, 2, 17, 18, 19, 20, 21, 22, 23, 24, 25, 26, 27, 52, 53, 54, 55, 56, 57, 58, 59, 60, 61, 62, 63, 64, 65, 66, 67, 68, 69, 70, 71, 72, 73, 74, 75, 76, 77, 78, 79, 80, 81, 82, 83, 84, 85, 86, 87, 88, 89, 90, 91, 92, 93, 94, 95, 96, 97, 98, 99, 100, 101, 102, 103, 104, 105, 106, 107, 108, 109, 110, 111, 112, 113, 114, 115, 116, 117, 118, 119, 120, 121, 122, 123, 124, 125, 126, 127, 128, 129, 130, 131, 132, 133, 134, 135, 136, 137, 138, 139, 140, 141, 142, 143, 144, 145, 146, 147, 148, 149, 150, 151, 152, 153, 154, 155, 156, 157, 158, 159, 160, 161, 162, 163, 164, 165, 166, 167, 168, 169, 170, 171, 172, 173, 174, 175, 176, 177, 178, 179, 180, 181, 182, 183, 184] σ σ') (fm : Fm [2, 3, 8, 9, 10, 11, 12, 13, 14, 15, 16, 17, 18, 19, 20, 21, 22, 24, 25, 26, 27, 28, 35, 37, 38, 41, 44, 47, 48, 49, 50, 51, 52, 53, 54, 55] [0, 1, 2, 3, 4, 5, 8, 9, 10, 11, 12, 13, 14, 15, 16, 17, 18, 19, 20, 21, 22, 23, 24, 25, 26, 27, 28, 29, 30, 31, 32, 33, 34, 35, 36, 37, 38, 39, 40, 41, 42, 43, 44, 45, 46, 47, 48, 50, 51, 53, 54, 55, 56, 57, 59, 60, 61, 63, 65, 66, 67, 68, 69, 71, 73, 74, 75, 76, 77, 78, 79, 80, 81, 82, 83, 85, 86] τ τ') (n_RLaw : RLaw σ' 17 τ') (n_RCalls : RCalls σ' 17 τ') (n_REven : REven σ' 17 τ') (n_RStreet : RStreet σ' 17 τ') (n_RU : RU σ' τ') (n_RP : RP σ' τ') (n_RF : RF σ' τ') (n_RS : RS σ' τ') : Rl σ' τ' := by
  obtain ⟨h0, h1, h2, h3, h4, h5, h6, h7, h8, h9, h10, h11, h12, h13, h14, h15, h16, h17, h18, h19⟩ := h
  exact ⟨h0.cg fx fm (by decide), n_RLaw, n_RCalls, n_REven, n_RStreet, h5.cg fx fm (by decide), h6.cg fx fm (by decide), h7.cg fx fm (by decide), h8.cg fx fm (by decide), h9.cg fx fm (by decide), h10.cg fx fm (by decide), h11.cg fx fm (by decide), h12.cg fx fm (by decide), h13.cg fx fm (by decide), h14.cg fx fm (by decide), n_RU, h16.cg fx fm (by decide), n_RP, n_RF, n_RS⟩
theorem RLaw.lo {σ σ' V V' : St} (h : RLaw σ 17 V) (x : σ' 18 = σ 18 ∧ σ' 19 = σ 19 ∧ σ' 20 = σ 20 ∧ σ' 21 = σ 21) (e : V' 10 = V 10) (l : LoC V V' ∧ Lo32 V V') : RLaw σ' 17 V' := by
  obtain ⟨⟨h0, h1, h2, h3, h4, h5, h6⟩, hl, hc⟩ := h
  simp only [Nat.reduceAdd] at h0 h1 h2 h5 h6 hl hc
  obtain ⟨x1, x2, x3, x4⟩ := x
  have v15 : ∀ i, i < 400 → V' 15 i = V 15 i := fun i i1 => (l.1 i (by omega)).1
  have v16 : ∀ i, i < 400 → V' 16 i = V 16 i := fun i i1 => (l.1 i (by omega)).2
  unfold RLaw
  simp only [Nat.reduceAdd]
  rw [x1, x2, x3, x4, e]
  refine ⟨⟨h0, h1, h2, h3, h4, h5, h6⟩, fun l0 l0' l1 => ?_, fun i i0 i1 => ?_⟩
  · obtain ⟨⟨k1, k2, k3, k4⟩, ⟨g1, g2, g3, g4, g5, g6⟩, ⟨x, x1, x2⟩, k5⟩ := hl l0 l0' l1
    obtain ⟨a1, a2, a3, a4⟩ := l.2 l0 (by omega)
    rw [a1, a2, a3, a4]
    refine ⟨⟨k1, k2, k3, k4⟩, ⟨g1, g2, g3, g4, g5, g6⟩, ⟨x, x1, ?_⟩, fun hlt => ?_⟩
    · rw [← x2]
      exact chk_cong fun j j0 j1 => ⟨v15 j (by omega), v16 j (by omega)⟩
    · rw [← k5 hlt]
      exact chk_cong fun j j0 j1 => ⟨v15 j (by omega), v16 j (by omega)⟩
  · rw [v15 i (by omega), v16 i (by omega)]
    exact hc i i0 i1
theorem RCalls.lo {σ σ' V V' : St} (h : RCalls σ 17 V) (x : σ' 22 = σ 22 ∧ σ' 23 = σ 23) (e : V' 0 35 = V 0 35 ∧ V' 0 6 = V 0 6 ∧ V' 0 7 = V 0 7) (l : LoT V V') : RCalls σ' 17 V' := by
  obtain ⟨⟨h0, h1, h2, h3⟩, h4, h5⟩ := h
  simp only [Nat.reduceAdd] at h0 h1 h4
  unfold RCalls
  simp only [Nat.reduceAdd]
  rw [x.1, x.2, e.1, e.2.1, e.2.2]
  refine ⟨⟨h0, h1, h2, h3⟩, fun j j0 j1 => ?_, fun k k0 k1 => ?_⟩
  · rw [(l.1 j (by omega)).1]
    exact h4 j j0 j1
  · rw [(l.1 (k * 4) (by omega)).1, (l.1 (k * 4 + 2) (by omega)).1]
    exact h5 k k0 k1
theorem REven.lo {σ σ' V V' : St} (h : REven σ 17 V) (x : σ' 24 = σ 24 ∧ σ' 25 = σ 25) (e : V' 0 37 = V 0 37 ∧ V' 0 6 = V 0 6 ∧ V' 0 7 = V 0 7) (l : LoT V V') : REven σ' 17 V' := by
  obtain ⟨⟨h0, h1, h2, h3⟩, h4⟩ := h
  simp only [Nat.reduceAdd] at h0 h1 h4
  unfold REven
  simp only [Nat.reduceAdd]
  rw [x.1, x.2, e.1, e.2.1, e.2.2]
  refine ⟨⟨h0, h1, h2, h3⟩, fun k k0 k1 => ?_⟩
  rw [(l.1 (k * 4) (by omega)).2, (l.1 (k * 4 + 1) (by omega)).2, (l.1 (k * 4 + 2) (by omega)).2, (l.1 (k * 4 + 3) (by omega)).2]
  exact h4 k k0 k1
theorem RStreet.lo {σ σ' V V' : St} (h : RStreet σ 17 V) (x : σ' 26 = σ 26 ∧ σ' 27 = σ 27) (e : V' 0 39 = V 0 39 ∧ V' 0 6 = V 0 6) (l : LoT V V') : RStreet σ' 17 V' := by
  obtain ⟨⟨h0, h1, h2, h3⟩, h4, h5⟩ := h
  simp only [Nat.reduceAdd] at h0 h1 h4 h5
  unfold RStreet
  simp only [Nat.reduceAdd]
  rw [x.1, x.2, e.1, e.2]
  refine ⟨⟨h0, h1, h2, h3⟩, h4, fun a b a0 a1 b0 b1 => ?_⟩
  rw [l.2 (12 * a + b) (by omega)]
  exact h5 a b a0 a1 b0 b1
abbrev XT : List Nat := [1, 18, 19, 20, 21, 22, 23, 24, 25, 26, 27, 52, 139, 140, 141, 142, 143, 144, 145, 146, 147, 148]
abbrev DT : List Nat := [10, 11, 12, 13, 14, 15, 16, 17, 18, 19, 20]
abbrev JT : List Int := [3, 13, 14, 15, 16, 17, 26, 27, 28, 30, 31, 32, 33, 34, 35, 37, 39]
theorem RS.t {σ σ' τ τ' : St} (h : RS σ τ) (fx : Fr XT σ σ') (fm : Fm DT JT τ τ') (w : Wi σ') : RS σ' τ' := by
  obtain ⟨⟨_, _, h3, h4⟩, h5⟩ := h
  unfold RS
  rw [fx 152 (by decide), fm.2 5 (by decide), fm.1 9 (by decide) (by decide)]
  exact ⟨⟨w.1, w.2, h3, h4⟩, h5⟩
theorem RP.none {σ τ : St} (h : σ 1 1 = 0) (h' : τ 0 13 = 0) : RP σ τ := by
  unfold RP
  rw [h, h']
  exact ⟨⟨rfl, by decide, by decide⟩, fun i i0 i1 => by omega⟩
/-- all pieces that a text can change -/
theorem t_all {σ σ' τ τ' : St} (h : Rl σ τ) (fx : Fr XT σ σ') (fm : Fm DT JT τ τ') (w : Wi σ') (p : σ' 1 1 = 0 ∧ τ' 0 13 = 0) (rf : RF σ' τ') (a : RLaw σ' 17 τ') (b : RCalls σ' 17 τ') (c : REven σ' 17 τ') (d : RStreet σ' 17 τ') (u : RU σ' τ') : Rl σ' τ' :=
  h.set_RLaw_RCalls_REven_RStreet_RU_RP_RF_RS (fx.mono (by decide)) (fm.mono (by decide) (by decide)) a b c d u (RP.none p.1 p.2) rf (h.c_RS.t fx fm w)
abbrev JB : List Int := [13, 14, 15, 16, 17, 26, 27, 28, 30, 31, 32, 33, 34]
/-- a text that can't be taken -/
theorem t_bad {σ σ' τ τ' : St} (h : Rl σ τ) (fx : Fr (1 :: CXR) σ σ') (fm : Fm DA JB τ τ') (l : LoA τ τ') (w : Wi σ') (p : σ' 1 1 = 0 ∧ τ' 0 13 = 0) (rf : RF σ' τ') : Rl σ' τ' :=
  t_all h (fx.mono (by decide)) (fm.mono (by decide) (by decide)) w p rf
    (h.c_RLaw.lo ⟨fx 18 (by decide), fx 19 (by decide), fx 20 (by decide), fx 21 (by decide)⟩ (fm.1 10 (by decide) (by decide)) ⟨l.1, l.2.1⟩)
    (h.c_RCalls.lo ⟨fx 22 (by decide), fx 23 (by decide)⟩ ⟨fm.2 35 (by decide), fm.2 6 (by decide), fm.2 7 (by decide)⟩ l.2.2)
    (h.c_REven.lo ⟨fx 24 (by decide), fx 25 (by decide)⟩ ⟨fm.2 37 (by decide), fm.2 6 (by decide), fm.2 7 (by decide)⟩ l.2.2)
    (h.c_RStreet.lo ⟨fx 26 (by decide), fx 27 (by decide)⟩ ⟨fm.2 39 (by decide), fm.2 6 (by decide)⟩ l.2.2)
    (h.c_RU.cg fx fm (by decide))
