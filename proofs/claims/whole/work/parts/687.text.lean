/-! TEXT: all -/
/-- what both sides have when the reading begins -/
def TB (C : Int → Int) (n : Int) (L : List Tk) (σ τ t : St) : Prop := Rl σ τ ∧ CX C n σ ∧ CC C n ∧ TL C 0 L ∧ ME C n t ∧ Fm [] [14, 27, 28, 33, 34] τ t ∧ (t 0 14 = 0 ∧ t 0 27 = 0 ∧ t 0 28 = 0) ∧ t 0 33 = 0 ∧ t 0 34 = -1
theorem TB.q {C : Int → Int} {n : Int} {L : List Tk} {σ τ t : St} (h : TB C n L σ τ t) : PQ σ (τ 0 7) (τ 0 6) ∧ PM t (τ 0 7) (τ 0 6) := by
  obtain ⟨r, _, _, _, _, f, _⟩ := h
  obtain ⟨⟨_, _, _, _, a5, a6⟩, ⟨b1, b2, b3, b4, _⟩, _⟩ := r.c_RH
  have a5 : σ 3 4 = τ 0 6 := by simpa using a5
  have a6 : σ 3 5 = τ 0 7 := by simpa using a6
  exact ⟨⟨a6, a5, b3, b4, b1, b2⟩, f.2 7 (by decide), f.2 6 (by decide), b3, b4, b1, b2⟩
theorem TB.wi {C : Int → Int} {n : Int} {L : List Tk} {σ τ t : St} (h : TB C n L σ τ t) : Wi σ := ⟨h.1.c_RS.1.1, h.1.c_RS.1.2.1⟩
theorem TB.p1 {C : Int → Int} {n : Int} {L : List Tk} {σ τ t s : St} (h : TB C n L σ τ t) (f : Fr CXR σ s) : 0 ≤ s 1 1 := by
  rw [f 1 (by decide), h.2.1.1]
  exact h.2.2.1.1.1
theorem TB.bad {C : Int → Int} {n : Int} {L : List Tk} {σ τ t s u : St} {k : Int} {q : Tk} (h : TB C n L σ τ t) (fx : Fr CXR σ s) (w : Wi s) (k7 : s 139 7 = k) (k8 : s 139 8 = q.2.2) (fm : Fm DA JA t u) (l : LoA t u) (m1 : u 0 31 = k) (m2 : u 0 32 = q.2.2) : Rl (up s 1 1 0) (up (up (up u 0 33 (u 0 31)) 0 34 (u 0 32)) 0 13 0) := by
  obtain ⟨r, _, _, _, _, f, _⟩ := h
  have F : Fm DA JB τ (up (up (up u 0 33 (u 0 31)) 0 34 (u 0 32)) 0 13 0) := ((((f.mono (by decide) (by decide)).tr (fm.mono (by decide) (by decide))).u0 (by decide)).u0 (by decide)).u0 (by decide)
  have g : Fm [] [13, 33, 34] u (up (up (up u 0 33 (u 0 31)) 0 34 (u 0 32)) 0 13 0) := ((Fm.rf.u0 (by decide)).u0 (by decide)).u0 (by decide)
  refine t_bad r ((fx.mono (by decide)).up (by decide)) F (((LoA.fm f).tr l).tr (LoA.fm g)) w ⟨rfl, rfl⟩ ⟨?_, ?_⟩
  · show s 139 7 = u 0 31
    rw [k7, m1]
  · show s 139 8 = u 0 32
    rw [k8, m2]
theorem s_text0 {C : Int → Int} {n : Int} {L : List Tk} {σ τ t : St} (h : TB C n L σ τ t) : Sim (fX11_text 0 σ) (mTail 0 t) := by
  obtain ⟨r, cx, c, hL, e, f, p0, r33, r34⟩ := id h
  refine x_tail (x_read0 cx c hL h.wi) fun rx s hx => ?_
  obtain ⟨fx, w, hx⟩ := hx
  refine ⟨h.p1 fx, ?_⟩
  have om := m_read0 c e p0 hL
  have ok := pLs_ok L.length L [] [] 
  generalize pLs L.length L [] [] = R at *
  match R, hx, om, ok with
  | .inl (k, L'), ⟨hr0, k7, q, M, eL, k8⟩, om, _ =>
    subst hr0
    refine Or.inl ⟨rfl, ?_⟩
    refine m_tail om fun rm u hm => ?_
    obtain ⟨⟨fm, l, z⟩, rfl, m1, q', M', eL', m2⟩ := hm
    rw [eL] at eL'
    cases eL'
    exact Or.inl ⟨rfl, rfl, h.bad fx w k7 k8 fm l m1 m2⟩
  | .inr (ls, a), ⟨hr0, k7, k8, xc, xl, l16, a4⟩, om, ok =>
    subst hr0
    refine Or.inr ⟨by decide, ?_⟩
    have f1 : Fr [1] s (up s 1 1 0) := Fr.rf.up (by decide)
    have fx1 : Fr (1 :: CXR) σ (up s 1 1 0) := (fx.mono (by decide)).up (by decide)
    have w1 : Wi (up s 1 1 0) := w
    have p1 : (up s 1 1 0) 1 1 = 0 := rfl
    have k71 : (up s 1 1 0) 139 7 = 0 := k7
    have k81 : (up s 1 1 0) 139 8 = -1 := k8
    have hl := r.c_RLaw.1
    simp only [Nat.reduceAdd] at hl
    refine ok_mono (x_ok0 (xc.fr f1 (by decide)) (xl.fr f1 (by decide)) ⟨by rw [fx1 18 (by decide)]; exact hl.1, by rw [fx1 20 (by decide)]; exact hl.2.1⟩ l16 a4) ?_
    generalize up s 1 1 0 = s1 at *
    rintro rx sx ⟨rfl, g, b, b4, b5⟩
    refine m_tail om fun rm u hm => ?_
    obtain ⟨⟨fm, l, z⟩, rfl, mc, ml⟩ := hm
    refine Or.inr ⟨by omega, ?_⟩
    rw [if_pos rfl, ko_bnd]
    have g13 : Fm [] [13] u (up u 0 13 0) := Fm.rf.u0 (by decide)
    refine ok_mono (takesLaw_ok (m := ls.length) (k := a.length) l16 ((g13.2 26 (by decide)).trans z) ((g13.2 27 (by decide)).trans mc.1) a4) ?_
    rintro _ v ⟨fv, v10, vl, vc⟩
    refine ok_ret ⟨rfl, ?_⟩
    have F : Fm DT JT τ v := (((f.mono (by decide) (by decide)).tr (fm.mono (by decide) (by decide))).tr (g13.mono (by decide) (by decide))).tr (fv.mono (by decide) (by decide))
    have lt : LoT τ v := by
      have q1 := ((LoA.fm f).tr l).tr (LoA.fm g13)
      have q2 : LoT (up u 0 13 0) v := LoT.of fv (by decide)
      exact ⟨fun i hi => ⟨((q2.1 i hi).1).trans (q1.2.2.1 i hi).1, ((q2.1 i hi).2).trans (q1.2.2.1 i hi).2⟩, fun i hi => (q2.2 i hi).trans (q1.2.2.2 i hi)⟩
    have fX : Fr XT σ sx := (fx1.mono (by decide)).tr (g.mono (by decide))
    have nf : ∀ j : Int, j ∉ ([13, 14, 15, 16, 17, 26, 27, 28, 30, 31, 32, 33, 34] : List Int) → v 0 j = τ 0 j := fun j hj => (((f.mono (C2 := DT) (J2 := [13, 14, 15, 16, 17, 26, 27, 28, 30, 31, 32, 33, 34]) (by decide) (by decide)).tr (fm.mono (by decide) (by decide))).tr ((g13.mono (by decide) (by decide)).tr (fv.mono (by decide) (by decide)))).2 j hj
    have fX1 : ∀ k, k ∉ (18 :: 19 :: 20 :: 21 :: 1 :: CXR) → sx k = σ k := fun k hk => ((fx1.mono (T := 18 :: 19 :: 20 :: 21 :: 1 :: CXR) (by decide)).tr (g.mono (by decide))) k hk
    refine t_all r fX F ⟨by rw [g 140 (by decide)]; exact w1.1, by rw [g 142 (by decide)]; exact w1.2⟩ ⟨by rw [g 1 (by decide)]; exact p1, (fv.2 13 (by decide)).trans rfl⟩ ⟨?_, ?_⟩ ?_
      (r.c_RCalls.lo ⟨fX1 22 (by decide), fX1 23 (by decide)⟩ ⟨nf 35 (by decide), nf 6 (by decide), nf 7 (by decide)⟩ lt)
      (r.c_REven.lo ⟨fX1 24 (by decide), fX1 25 (by decide)⟩ ⟨nf 37 (by decide), nf 6 (by decide), nf 7 (by decide)⟩ lt)
      (r.c_RStreet.lo ⟨fX1 26 (by decide), fX1 27 (by decide)⟩ ⟨nf 39 (by decide), nf 6 (by decide)⟩ lt) ?_
    · rw [g 139 (by decide), k71, fv.2 33 (by decide), g13.2 33 (by decide), fm.2 33 (by decide), r33]
    · rw [g 139 (by decide), k81, fv.2 34 (by decide), g13.2 34 (by decide), fm.2 34 (by decide), r34]
    · refine RLaw.new (ok _ _ (hL.tv c (Int.le_refl _) c.1.1) (fun q hq => by simp at hq) rfl) b l16 a4 v10 b4 (fun j q hj => ?_) b5 (fun j q hj => ?_)
      · have lt : j < ls.length := by
          by_cases g : j < ls.length
          · exact g
          · rw [List.getElem?_eq_none (by omega)] at hj; cases hj
        obtain ⟨v1, v2, v3, v4⟩ := vl j lt
        rw [v1, v2, v3, v4, g13.1 11 (by decide) (by decide), g13.1 12 (by decide) (by decide), g13.1 13 (by decide) (by decide), g13.1 14 (by decide) (by decide)]
        exact ml j q hj
      · have lt : j < a.length := by
          by_cases g : j < a.length
          · exact g
          · rw [List.getElem?_eq_none (by omega)] at hj; cases hj
        obtain ⟨v1, v2⟩ := vc j lt
        rw [v1, v2, g13.1 15 (by decide) (by decide), g13.1 16 (by decide) (by decide)]
        exact mc.2 j q hj
    · exact r.c_RU.cg (C := 18 :: 19 :: 20 :: 21 :: 1 :: CXR) (D := [10, 11, 12, 13, 14, 15, 16, 17, 18, 19, 20]) (J := [13, 14, 15, 16, 17, 26, 27, 28, 30, 31, 32, 33, 34]) fX1 (((f.mono (by decide) (by decide)).tr (fm.mono (by decide) (by decide))).tr ((g13.mono (by decide) (by decide)).tr (fv.mono (by decide) (by decide)))) (by decide)
