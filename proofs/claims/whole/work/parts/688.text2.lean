/-! TEXT: calls, evenings, the street -/
/-- the reference's lines, as they are taken -/
def V4 (k : Nat) (o : Int) (v : St) (ls : List Ln) : Prop := ∀ (j : Nat) (l : Ln), ls[j]? = some l → v k ((j : Int) * 4) = l.1 ∧ v k ((j : Int) * 4 + 1) = l.2.1 - o ∧ v k ((j : Int) * 4 + 2) = l.2.2.1 ∧ v k ((j : Int) * 4 + 3) = l.2.2.2
theorem lt_of_at {α : Type} {ls : List α} {j : Nat} {l : α} (h : ls[j]? = some l) : j < ls.length := by
  by_cases g : j < ls.length
  · exact g
  · rw [List.getElem?_eq_none (by omega)] at h; cases h
theorem I4.take {k : Nat} {o : Int} {ls : List Ln} {X u v : St} (h : I4 k o ls X) (hu : u k = X k) (hv : ∀ j : Int, 0 ≤ j → j < 4 * (ls.length : Int) → v k j = u k (64 + j)) : V4 k o v ls := by
  intro j l hj
  have lt := lt_of_at hj
  obtain ⟨a, b, c, d⟩ := h j l hj
  rw [hv _ (by omega) (by omega), hv _ (by omega) (by omega), hv _ (by omega) (by omega), hv _ (by omega) (by omega), hu]
  rw [show 64 + ((j : Int) * 4) = 64 + 4 * (j : Int) by omega, show 64 + ((j : Int) * 4 + 1) = 64 + 4 * (j : Int) + 1 by omega, show 64 + ((j : Int) * 4 + 2) = 64 + 4 * (j : Int) + 2 by omega, show 64 + ((j : Int) * 4 + 3) = 64 + 4 * (j : Int) + 3 by omega]
  exact ⟨a, b, c, d⟩
theorem RCalls.new {σ V : St} {ls : List Ln} {P Q : Int} (hp : ∀ l, l ∈ ls → 0 ≤ l.1 ∧ l.1 ≤ P - 1 ∧ 0 ≤ l.2.2.1 ∧ l.2.2.1 ≤ Q - 1) (h0 : σ 22 0 = 4 ∧ σ 22 2 = ls.length) (x : X4 23 σ ls) (v : V4 18 0 V ls) (e : V 0 35 = ls.length ∧ V 0 7 = P ∧ V 0 6 = Q) (l16 : ls.length ≤ 16) : RCalls σ 17 V := by
  unfold RCalls
  simp only [Nat.reduceAdd]
  rw [e.1, e.2.1, e.2.2]
  refine ⟨⟨h0.1, h0.2, by omega, by omega⟩, fun j j0 j1 => ?_, fun k k0 k1 => ?_⟩
  · obtain ⟨q, m, hq, hm⟩ : ∃ q m : Nat, j = (q : Int) * 4 + m ∧ m < 4 := ⟨(j / 4).toNat, (j % 4).toNat, by omega, by omega⟩
    have lt : q < ls.length := by omega
    have eq := List.getElem?_eq_getElem lt
    obtain ⟨a1, a2, a3, a4⟩ := x q _ eq
    obtain ⟨b1, b2, b3, b4⟩ := v q _ eq
    obtain rfl | rfl | rfl | rfl : m = 0 ∨ m = 1 ∨ m = 2 ∨ m = 3 := by omega
    · rw [show j = (q : Int) * 4 by omega, a1, b1]
    · rw [show j = (q : Int) * 4 + 1 by omega, a2, b2]; omega
    · rw [show j = (q : Int) * 4 + 2 by omega, a3, b3]
    · rw [show j = (q : Int) * 4 + 3 by omega, a4, b4]
  · obtain ⟨q, rfl⟩ : ∃ q : Nat, k = q := ⟨k.toNat, by omega⟩
    have lt : q < ls.length := by omega
    obtain ⟨b1, b2, b3, b4⟩ := v q _ (List.getElem?_eq_getElem lt)
    obtain ⟨c1, c2, c3, c4⟩ := hp _ (List.getElem_mem lt)
    rw [b1, b3]
    exact ⟨c1, by omega, c3, by omega⟩
theorem REven.new {σ V : St} {ls : List Ln} {P Q : Int} (hp : ∀ l, l ∈ ls → (285 ≤ l.2.1 ∧ l.2.1 ≤ 288) ∧ 0 ≤ l.2.2.1 ∧ (l.2.1 ≠ 287 → l.2.2.1 ≤ Q - 1) ∧ (l.2.1 = 285 → 0 ≤ l.2.2.2 ∧ l.2.2.2 ≤ 99) ∧ (l.2.1 = 288 → 0 ≤ l.2.2.2 ∧ l.2.2.2 ≤ P - 1)) (h0 : σ 24 0 = 4 ∧ σ 24 2 = ls.length) (x : X4 25 σ ls) (v : V4 19 285 V ls) (e : V 0 37 = ls.length ∧ V 0 7 = P ∧ V 0 6 = Q) (l16 : ls.length ≤ 16) : REven σ 17 V := by
  unfold REven
  simp only [Nat.reduceAdd]
  rw [e.1, e.2.1, e.2.2]
  refine ⟨⟨h0.1, h0.2, by omega, by omega⟩, fun k k0 k1 => ?_⟩
  obtain ⟨q, rfl⟩ : ∃ q : Nat, k = q := ⟨k.toNat, by omega⟩
  have lt : q < ls.length := by omega
  have eq := List.getElem?_eq_getElem lt
  obtain ⟨a1, a2, a3, a4⟩ := x q _ eq
  obtain ⟨b1, b2, b3, b4⟩ := v q _ eq
  obtain ⟨⟨c1, c2⟩, c3, c4, c5, c6⟩ := hp _ (List.getElem_mem lt)
  rw [a1, a2, a3, a4, b1, b2, b3, b4]
  exact ⟨⟨rfl, by omega, rfl, rfl⟩, by omega, by omega, fun z => ⟨c3, by have := c4 (by omega); omega⟩, fun z => c5 (by omega), fun z => by have := c6 (by omega); omega⟩
theorem RStreet.new {σ V : St} {ls : List Ln} {Q : Int} {X : St} (hp : ∀ l, l ∈ ls → 0 ≤ l.1 ∧ l.1 ≤ Q - 1 ∧ 0 ≤ l.2.1 ∧ l.2.1 ≤ Q - 1 ∧ l.1 ≠ l.2.1 ∧ 1 ≤ l.2.2.1 ∧ l.2.2.1 ≤ 99) (h0 : σ 26 0 = 4 ∧ σ 26 2 = ls.length) (x : X4 27 σ ls) (hI : I20 Q ls X) (v : ∀ j : Int, 0 ≤ j → j < 144 → V 20 j = X 20 (144 + j)) (e : V 0 39 = ls.length ∧ V 0 6 = Q) (l16 : ls.length ≤ 16) : RStreet σ 17 V := by
  unfold RStreet
  simp only [Nat.reduceAdd]
  rw [e.1, e.2]
  refine ⟨⟨h0.1, h0.2, by omega, by omega⟩, fun k k0 k1 => ?_, fun a b a0 a1 b0 b1 => ?_⟩
  · obtain ⟨q, rfl⟩ : ∃ q : Nat, k = q := ⟨k.toNat, by omega⟩
    have lt : q < ls.length := by omega
    obtain ⟨a1, a2, a3, a4⟩ := x q _ (List.getElem?_eq_getElem lt)
    obtain ⟨c1, c2, c3, c4, c5, c6, c7⟩ := hp _ (List.getElem_mem lt)
    rw [a1, a2, a3]
    exact ⟨c1, by omega, c3, by omega, c5, c6, c7⟩
  · rw [v _ (by omega) (by omega), show 144 + (12 * a + b) = 144 + 12 * a + b by omega, hI (σ 27) (fun j l hj => by obtain ⟨p1, p2, p3, _⟩ := x j l hj; exact ⟨p1, p2, p3⟩) a b a0 a1 b0 b1]
    rfl
theorem s_text1 {C : Int → Int} {n : Int} {L : List Tk} {σ τ t : St} (h : TB C n L σ τ t) : Sim (fX11_text 1 σ) (mTail 1 t) := by
  obtain ⟨r, cx, c, hL, e, f, p0, r33, r34⟩ := id h
  obtain ⟨qx, qm⟩ := h.q
  refine x_tail (x_read1 cx c hL h.wi qx) fun rx s hx => ?_
  obtain ⟨fx, w, hx⟩ := hx
  refine ⟨h.p1 fx, ?_⟩
  have om := m_read1 c e p0.1 hL qm
  have ok : ∀ ls, pGs 280 (pCall (τ 0 7) (τ 0 6)) L.length L [] = .inr ls → ∀ l, l ∈ ls → 0 ≤ l.1 ∧ l.1 ≤ τ 0 7 - 1 ∧ 0 ≤ l.2.2.1 ∧ l.2.2.1 ≤ τ 0 6 - 1 := fun ls e => pGs_all (Pr := fun l => 0 ≤ l.1 ∧ l.1 ≤ τ 0 7 - 1 ∧ 0 ≤ l.2.2.1 ∧ l.2.2.1 ≤ τ 0 6 - 1) (fun M l M' h => (pCall_in h).2) _ _ _ _ (fun l hl => by simp at hl) e
  generalize pGs 280 (pCall (τ 0 7) (τ 0 6)) L.length L [] = R at *
  match R, hx, om, ok with
  | .inl (k, L'), ⟨hr0, k7, q, M, eL, k8⟩, om, _ =>
    subst hr0
    refine Or.inl ⟨rfl, ?_⟩
    refine m_tail om fun rm u hm => ?_
    obtain ⟨⟨fm, l, z⟩, rfl, m1, q', M', eL', m2⟩ := hm
    rw [eL] at eL'
    cases eL'
    exact Or.inl ⟨rfl, rfl, h.bad fx w k7 k8 fm l m1 m2⟩
  | .inr ls, ⟨hr0, k7, k8, xl, l16⟩, om, ok =>
    subst hr0
    refine Or.inr ⟨by decide, ?_⟩
    have f1 : Fr [1] s (up s 1 1 0) := Fr.rf.up (by decide)
    have fx1 : Fr (1 :: CXR) σ (up s 1 1 0) := (fx.mono (by decide)).up (by decide)
    have w1 : Wi (up s 1 1 0) := w
    have p1 : (up s 1 1 0) 1 1 = 0 := rfl
    have k71 : (up s 1 1 0) 139 7 = 0 := k7
    have k81 : (up s 1 1 0) 139 8 = -1 := k8
    have hl := r.c_RCalls.1
    simp only [Nat.reduceAdd] at hl
    refine ok_mono (x_ok1 (xl.fr f1 (by decide)) (by rw [fx1 22 (by decide)]; exact hl.1) l16) ?_
    generalize up s 1 1 0 = s1 at *
    rintro rx sx ⟨rfl, g, b52, b0, b2, b4⟩
    refine m_tail om fun rm u hm => ?_
    obtain ⟨⟨fm, l, z⟩, rfl, X, hX, hI⟩ := hm
    refine Or.inr ⟨by omega, ?_⟩
    rw [if_neg (by decide), ko_bnd]
    have g13 : Fm [] [13] u (up u 0 13 0) := Fm.rf.u0 (by decide)
    refine ok_mono (takes1_ok (m := ls.length) l16) ?_
    rintro _ v ⟨fv, v35, v3, hv⟩
    refine ok_ret ⟨rfl, ?_⟩
    have F : Fm DT JT τ v := (((f.mono (by decide) (by decide)).tr (fm.mono (by decide) (by decide))).tr (g13.mono (by decide) (by decide))).tr (fv.mono (by decide) (by decide))
    have F2 : Fm DT [3, 13, 14, 15, 16, 17, 26, 27, 28, 30, 31, 32, 33, 34, 35] τ v := (((f.mono (by decide) (by decide)).tr (fm.mono (by decide) (by decide))).tr (g13.mono (by decide) (by decide))).tr (fv.mono (by decide) (by decide))
    have la := ((LoA.fm f).tr l).tr (LoA.fm g13)
    have lc : LoC (up u 0 13 0) v := LoC.fm fv (by decide)
    have l32 : Lo32 (up u 0 13 0) v := Lo32.fm fv (by decide)
    have e10 : v 10 = τ 10 := by rw [fv.1 10 (by decide) (by decide), g13.1 10 (by decide) (by decide), fm.1 10 (by decide) (by decide), f.1 10 (by decide) (by decide)]
    have F2' : ∀ j : Int, j ∉ ([3, 13, 14, 15, 16, 17, 26, 27, 28, 30, 31, 32, 33, 34, 35] : List Int) → v 0 j = τ 0 j := F2.2
    have fX : Fr XT σ sx := (fx1.mono (by decide)).tr (g.mono (by decide))
    have fX1 : ∀ k, k ∉ (22 :: 23 :: 52 :: 1 :: CXR) → sx k = σ k := fun k hk => ((fx1.mono (T := 22 :: 23 :: 52 :: 1 :: CXR) (by decide)).tr (g.mono (by decide))) k hk
    have o18 : ∀ k, k ≠ 0 → k ≠ 18 → v k = u k := fun k h0 hk => (fv.1 k h0 (by simpa using hk)).trans (g13.1 k h0 (by simp))
    have lt : LoT τ (fun k => if k = 18 then τ 18 else v k) := by
      refine ⟨fun i hi => ?_, fun i hi => ?_⟩
      · obtain ⟨y1, y2⟩ := la.2.2.1 i hi
        show (if 18 = 18 then τ 18 else v 18) i = τ 18 i ∧ (if 19 = 18 then τ 18 else v 19) i = τ 19 i
        rw [if_pos rfl, if_neg (by decide), fv.1 19 (by decide) (by decide)]
        exact ⟨rfl, y2⟩
      · have y := la.2.2.2 i hi
        show (if 20 = 18 then τ 18 else v 20) i = τ 20 i
        rw [if_neg (by decide), fv.1 20 (by decide) (by decide)]
        exact y
    have zREven : REven sx 17 v := by
      have q : REven sx 17 (fun k => if k = 18 then τ 18 else v k) := r.c_REven.lo ⟨fX1 24 (by decide), fX1 25 (by decide)⟩ ⟨F2' 37 (by decide), F2' 6 (by decide), F2' 7 (by decide)⟩ lt
      exact q.cg (C := []) (D := [18]) (J := []) Fr.rf ⟨fun k h0 hk => (if_neg (by simpa using hk)).symm, fun i _ => rfl⟩ (by decide)
    have zRStreet : RStreet sx 17 v := by
      have q : RStreet sx 17 (fun k => if k = 18 then τ 18 else v k) := r.c_RStreet.lo ⟨fX1 26 (by decide), fX1 27 (by decide)⟩ ⟨F2' 39 (by decide), F2' 6 (by decide)⟩ lt
      exact q.cg (C := []) (D := [18]) (J := []) Fr.rf ⟨fun k h0 hk => (if_neg (by simpa using hk)).symm, fun i _ => rfl⟩ (by decide)
    refine t_all r fX F ⟨by rw [g 140 (by decide)]; exact w1.1, by rw [g 142 (by decide)]; exact w1.2⟩ ⟨by rw [g 1 (by decide)]; exact p1, (fv.2 13 (by decide)).trans rfl⟩ ⟨?_, ?_⟩
      (r.c_RLaw.lo ⟨fX1 18 (by decide), fX1 19 (by decide), fX1 20 (by decide), fX1 21 (by decide)⟩ e10 ⟨la.1.tr lc, la.2.1.tr l32⟩) ?_ zREven zRStreet ?_
    · rw [g 139 (by decide), k71, fv.2 33 (by decide), g13.2 33 (by decide), fm.2 33 (by decide), r33]
    · rw [g 139 (by decide), k81, fv.2 34 (by decide), g13.2 34 (by decide), fm.2 34 (by decide), r34]
    · refine RCalls.new (ok ls rfl) ⟨b0, b2⟩ b4 (hI.take (u := up u 0 13 0) (by rw [g13.1 18 (by decide) (by decide)]; exact hX 18 (by decide)) hv) ⟨v35, F2' 7 (by decide), F2' 6 (by decide)⟩ l16
    · exact RU.none b52.1 v3 (by rw [b52.2, fx1 52 (by decide)]; exact ⟨r.c_RU.1.2.2.2.1, r.c_RU.1.2.2.2.2⟩)
theorem s_text2 {C : Int → Int} {n : Int} {L : List Tk} {σ τ t : St} (h : TB C n L σ τ t) : Sim (fX11_text 2 σ) (mTail 2 t) := by
  obtain ⟨r, cx, c, hL, e, f, p0, r33, r34⟩ := id h
  obtain ⟨qx, qm⟩ := h.q
  refine x_tail (x_read2 cx c hL h.wi qx) fun rx s hx => ?_
  obtain ⟨fx, w, hx⟩ := hx
  refine ⟨h.p1 fx, ?_⟩
  have om := m_read2 c e p0.1 hL qm
  have ok : ∀ ls, pGs 284 (pDeed (τ 0 7) (τ 0 6)) L.length L [] = .inr ls → ∀ l, l ∈ ls → (285 ≤ l.2.1 ∧ l.2.1 ≤ 288) ∧ 0 ≤ l.2.2.1 ∧ (l.2.1 ≠ 287 → l.2.2.1 ≤ τ 0 6 - 1) ∧ (l.2.1 = 285 → 0 ≤ l.2.2.2 ∧ l.2.2.2 ≤ 99) ∧ (l.2.1 = 288 → 0 ≤ l.2.2.2 ∧ l.2.2.2 ≤ τ 0 7 - 1) := fun ls e => pGs_all (Pr := fun l => (285 ≤ l.2.1 ∧ l.2.1 ≤ 288) ∧ 0 ≤ l.2.2.1 ∧ (l.2.1 ≠ 287 → l.2.2.1 ≤ τ 0 6 - 1) ∧ (l.2.1 = 285 → 0 ≤ l.2.2.2 ∧ l.2.2.2 ≤ 99) ∧ (l.2.1 = 288 → 0 ≤ l.2.2.2 ∧ l.2.2.2 ≤ τ 0 7 - 1)) (fun M l M' h => (pDeed_in h).2) _ _ _ _ (fun l hl => by simp at hl) e
  generalize pGs 284 (pDeed (τ 0 7) (τ 0 6)) L.length L [] = R at *
  match R, hx, om, ok with
  | .inl (k, L'), ⟨hr0, k7, q, M, eL, k8⟩, om, _ =>
    subst hr0
    refine Or.inl ⟨rfl, ?_⟩
    refine m_tail om fun rm u hm => ?_
    obtain ⟨⟨fm, l, z⟩, rfl, m1, q', M', eL', m2⟩ := hm
    rw [eL] at eL'
    cases eL'
    exact Or.inl ⟨rfl, rfl, h.bad fx w k7 k8 fm l m1 m2⟩
  | .inr ls, ⟨hr0, k7, k8, xl, l16⟩, om, ok =>
    subst hr0
    refine Or.inr ⟨by decide, ?_⟩
    have f1 : Fr [1] s (up s 1 1 0) := Fr.rf.up (by decide)
    have fx1 : Fr (1 :: CXR) σ (up s 1 1 0) := (fx.mono (by decide)).up (by decide)
    have w1 : Wi (up s 1 1 0) := w
    have p1 : (up s 1 1 0) 1 1 = 0 := rfl
    have k71 : (up s 1 1 0) 139 7 = 0 := k7
    have k81 : (up s 1 1 0) 139 8 = -1 := k8
    have hl := r.c_REven.1
    simp only [Nat.reduceAdd] at hl
    refine ok_mono (x_ok2 (xl.fr f1 (by decide)) (by rw [fx1 24 (by decide)]; exact hl.1) l16) ?_
    generalize up s 1 1 0 = s1 at *
    rintro rx sx ⟨rfl, g, b52, b0, b2, b4⟩
    refine m_tail om fun rm u hm => ?_
    obtain ⟨⟨fm, l, z⟩, rfl, X, hX, hI⟩ := hm
    refine Or.inr ⟨by omega, ?_⟩
    rw [if_neg (by decide), ko_bnd]
    have g13 : Fm [] [13] u (up u 0 13 0) := Fm.rf.u0 (by decide)
    refine ok_mono (takes2_ok (m := ls.length) l16) ?_
    rintro _ v ⟨fv, v35, v3, hv⟩
    refine ok_ret ⟨rfl, ?_⟩
    have F : Fm DT JT τ v := (((f.mono (by decide) (by decide)).tr (fm.mono (by decide) (by decide))).tr (g13.mono (by decide) (by decide))).tr (fv.mono (by decide) (by decide))
    have F2 : Fm DT [3, 13, 14, 15, 16, 17, 26, 27, 28, 30, 31, 32, 33, 34, 37] τ v := (((f.mono (by decide) (by decide)).tr (fm.mono (by decide) (by decide))).tr (g13.mono (by decide) (by decide))).tr (fv.mono (by decide) (by decide))
    have la := ((LoA.fm f).tr l).tr (LoA.fm g13)
    have lc : LoC (up u 0 13 0) v := LoC.fm fv (by decide)
    have l32 : Lo32 (up u 0 13 0) v := Lo32.fm fv (by decide)
    have e10 : v 10 = τ 10 := by rw [fv.1 10 (by decide) (by decide), g13.1 10 (by decide) (by decide), fm.1 10 (by decide) (by decide), f.1 10 (by decide) (by decide)]
    have F2' : ∀ j : Int, j ∉ ([3, 13, 14, 15, 16, 17, 26, 27, 28, 30, 31, 32, 33, 34, 37] : List Int) → v 0 j = τ 0 j := F2.2
    have fX : Fr XT σ sx := (fx1.mono (by decide)).tr (g.mono (by decide))
    have fX1 : ∀ k, k ∉ (24 :: 25 :: 52 :: 1 :: CXR) → sx k = σ k := fun k hk => ((fx1.mono (T := 24 :: 25 :: 52 :: 1 :: CXR) (by decide)).tr (g.mono (by decide))) k hk
    have o18 : ∀ k, k ≠ 0 → k ≠ 19 → v k = u k := fun k h0 hk => (fv.1 k h0 (by simpa using hk)).trans (g13.1 k h0 (by simp))
    have lt : LoT τ (fun k => if k = 19 then τ 19 else v k) := by
      refine ⟨fun i hi => ?_, fun i hi => ?_⟩
      · obtain ⟨y1, y2⟩ := la.2.2.1 i hi
        show (if 18 = 19 then τ 19 else v 18) i = τ 18 i ∧ (if 19 = 19 then τ 19 else v 19) i = τ 19 i
        rw [if_neg (by decide), if_pos rfl, fv.1 18 (by decide) (by decide)]
        exact ⟨y1, rfl⟩
      · have y := la.2.2.2 i hi
        show (if 20 = 19 then τ 19 else v 20) i = τ 20 i
        rw [if_neg (by decide), fv.1 20 (by decide) (by decide)]
        exact y
    have zRCalls : RCalls sx 17 v := by
      have q : RCalls sx 17 (fun k => if k = 19 then τ 19 else v k) := r.c_RCalls.lo ⟨fX1 22 (by decide), fX1 23 (by decide)⟩ ⟨F2' 35 (by decide), F2' 6 (by decide), F2' 7 (by decide)⟩ lt
      exact q.cg (C := []) (D := [19]) (J := []) Fr.rf ⟨fun k h0 hk => (if_neg (by simpa using hk)).symm, fun i _ => rfl⟩ (by decide)
    have zRStreet : RStreet sx 17 v := by
      have q : RStreet sx 17 (fun k => if k = 19 then τ 19 else v k) := r.c_RStreet.lo ⟨fX1 26 (by decide), fX1 27 (by decide)⟩ ⟨F2' 39 (by decide), F2' 6 (by decide)⟩ lt
      exact q.cg (C := []) (D := [19]) (J := []) Fr.rf ⟨fun k h0 hk => (if_neg (by simpa using hk)).symm, fun i _ => rfl⟩ (by decide)
    refine t_all r fX F ⟨by rw [g 140 (by decide)]; exact w1.1, by rw [g 142 (by decide)]; exact w1.2⟩ ⟨by rw [g 1 (by decide)]; exact p1, (fv.2 13 (by decide)).trans rfl⟩ ⟨?_, ?_⟩
      (r.c_RLaw.lo ⟨fX1 18 (by decide), fX1 19 (by decide), fX1 20 (by decide), fX1 21 (by decide)⟩ e10 ⟨la.1.tr lc, la.2.1.tr l32⟩) zRCalls ?_ zRStreet ?_
    · rw [g 139 (by decide), k71, fv.2 33 (by decide), g13.2 33 (by decide), fm.2 33 (by decide), r33]
    · rw [g 139 (by decide), k81, fv.2 34 (by decide), g13.2 34 (by decide), fm.2 34 (by decide), r34]
    · refine REven.new (ok ls rfl) ⟨b0, b2⟩ b4 (hI.take (u := up u 0 13 0) (by rw [g13.1 19 (by decide) (by decide)]; exact hX 19 (by decide)) hv) ⟨v35, F2' 7 (by decide), F2' 6 (by decide)⟩ l16
    · exact RU.none b52.1 v3 (by rw [b52.2, fx1 52 (by decide)]; exact ⟨r.c_RU.1.2.2.2.1, r.c_RU.1.2.2.2.2⟩)
theorem s_text3 {C : Int → Int} {n : Int} {L : List Tk} {σ τ t : St} (h : TB C n L σ τ t) : Sim (fX11_text 3 σ) (mTail 3 t) := by
  obtain ⟨r, cx, c, hL, e, f, p0, r33, r34⟩ := id h
  obtain ⟨qx, qm⟩ := h.q
  refine x_tail (x_read3 cx c hL h.wi qx) fun rx s hx => ?_
  obtain ⟨fx, w, hx⟩ := hx
  refine ⟨h.p1 fx, ?_⟩
  have om := m_read3 c e p0.1 hL qm
  have ok : ∀ ls, pGs 289 (pRoad (τ 0 6)) L.length L [] = .inr ls → ∀ l, l ∈ ls → 0 ≤ l.1 ∧ l.1 ≤ τ 0 6 - 1 ∧ 0 ≤ l.2.1 ∧ l.2.1 ≤ τ 0 6 - 1 ∧ l.1 ≠ l.2.1 ∧ 1 ≤ l.2.2.1 ∧ l.2.2.1 ≤ 99 := fun ls e => pGs_all (Pr := fun l => 0 ≤ l.1 ∧ l.1 ≤ τ 0 6 - 1 ∧ 0 ≤ l.2.1 ∧ l.2.1 ≤ τ 0 6 - 1 ∧ l.1 ≠ l.2.1 ∧ 1 ≤ l.2.2.1 ∧ l.2.2.1 ≤ 99) (fun M l M' h => (pRoad_in h).2) _ _ _ _ (fun l hl => by simp at hl) e
  generalize pGs 289 (pRoad (τ 0 6)) L.length L [] = R at *
  match R, hx, om, ok with
  | .inl (k, L'), ⟨hr0, k7, q, M, eL, k8⟩, om, _ =>
    subst hr0
    refine Or.inl ⟨rfl, ?_⟩
    refine m_tail om fun rm u hm => ?_
    obtain ⟨⟨fm, l, z⟩, rfl, m1, q', M', eL', m2⟩ := hm
    rw [eL] at eL'
    cases eL'
    exact Or.inl ⟨rfl, rfl, h.bad fx w k7 k8 fm l m1 m2⟩
  | .inr ls, ⟨hr0, k7, k8, xl, l16⟩, om, ok =>
    subst hr0
    refine Or.inr ⟨by decide, ?_⟩
    have f1 : Fr [1] s (up s 1 1 0) := Fr.rf.up (by decide)
    have fx1 : Fr (1 :: CXR) σ (up s 1 1 0) := (fx.mono (by decide)).up (by decide)
    have w1 : Wi (up s 1 1 0) := w
    have p1 : (up s 1 1 0) 1 1 = 0 := rfl
    have k71 : (up s 1 1 0) 139 7 = 0 := k7
    have k81 : (up s 1 1 0) 139 8 = -1 := k8
    have hl := r.c_RStreet.1
    simp only [Nat.reduceAdd] at hl
    refine ok_mono (x_ok3 (xl.fr f1 (by decide)) (by rw [fx1 26 (by decide)]; exact hl.1) l16) ?_
    generalize up s 1 1 0 = s1 at *
    rintro rx sx ⟨rfl, g, b0, b2, b4⟩
    refine m_tail om fun rm u hm => ?_
    obtain ⟨⟨fm, l, z⟩, rfl, X, hX, hI⟩ := hm
    refine Or.inr ⟨by omega, ?_⟩
    rw [if_neg (by decide), ko_bnd]
    have g13 : Fm [] [13] u (up u 0 13 0) := Fm.rf.u0 (by decide)
    refine ok_mono (takes3_ok (m := (ls.length : Int))) ?_
    rintro _ v ⟨fv, v35, hv⟩
    refine ok_ret ⟨rfl, ?_⟩
    have F : Fm DT JT τ v := (((f.mono (by decide) (by decide)).tr (fm.mono (by decide) (by decide))).tr (g13.mono (by decide) (by decide))).tr (fv.mono (by decide) (by decide))
    have F2 : Fm DT [13, 14, 15, 16, 17, 26, 27, 28, 30, 31, 32, 33, 34, 39] τ v := (((f.mono (by decide) (by decide)).tr (fm.mono (by decide) (by decide))).tr (g13.mono (by decide) (by decide))).tr (fv.mono (by decide) (by decide))
    have la := ((LoA.fm f).tr l).tr (LoA.fm g13)
    have lc : LoC (up u 0 13 0) v := LoC.fm fv (by decide)
    have l32 : Lo32 (up u 0 13 0) v := Lo32.fm fv (by decide)
    have e10 : v 10 = τ 10 := by rw [fv.1 10 (by decide) (by decide), g13.1 10 (by decide) (by decide), fm.1 10 (by decide) (by decide), f.1 10 (by decide) (by decide)]
    have F2' : ∀ j : Int, j ∉ ([13, 14, 15, 16, 17, 26, 27, 28, 30, 31, 32, 33, 34, 39] : List Int) → v 0 j = τ 0 j := F2.2
    have fX : Fr XT σ sx := (fx1.mono (by decide)).tr (g.mono (by decide))
    have fX1 : ∀ k, k ∉ (26 :: 27 :: 1 :: CXR) → sx k = σ k := fun k hk => ((fx1.mono (T := 26 :: 27 :: 1 :: CXR) (by decide)).tr (g.mono (by decide))) k hk
    have o18 : ∀ k, k ≠ 0 → k ≠ 20 → v k = u k := fun k h0 hk => (fv.1 k h0 (by simpa using hk)).trans (g13.1 k h0 (by simp))
    have lt : LoT τ (fun k => if k = 20 then τ 20 else v k) := by
      refine ⟨fun i hi => ?_, fun i hi => ?_⟩
      · obtain ⟨y1, y2⟩ := la.2.2.1 i hi
        show (if 18 = 20 then τ 20 else v 18) i = τ 18 i ∧ (if 19 = 20 then τ 20 else v 19) i = τ 19 i
        rw [if_neg (by decide), if_neg (by decide), fv.1 18 (by decide) (by decide), fv.1 19 (by decide) (by decide)]
        exact ⟨y1, y2⟩
      · have y := la.2.2.2 i hi
        show (if 20 = 20 then τ 20 else v 20) i = τ 20 i
        rw [if_pos rfl]
    have zRCalls : RCalls sx 17 v := by
      have q : RCalls sx 17 (fun k => if k = 20 then τ 20 else v k) := r.c_RCalls.lo ⟨fX1 22 (by decide), fX1 23 (by decide)⟩ ⟨F2' 35 (by decide), F2' 6 (by decide), F2' 7 (by decide)⟩ lt
      exact q.cg (C := []) (D := [20]) (J := []) Fr.rf ⟨fun k h0 hk => (if_neg (by simpa using hk)).symm, fun i _ => rfl⟩ (by decide)
    have zREven : REven sx 17 v := by
      have q : REven sx 17 (fun k => if k = 20 then τ 20 else v k) := r.c_REven.lo ⟨fX1 24 (by decide), fX1 25 (by decide)⟩ ⟨F2' 37 (by decide), F2' 6 (by decide), F2' 7 (by decide)⟩ lt
      exact q.cg (C := []) (D := [20]) (J := []) Fr.rf ⟨fun k h0 hk => (if_neg (by simpa using hk)).symm, fun i _ => rfl⟩ (by decide)
    refine t_all r fX F ⟨by rw [g 140 (by decide)]; exact w1.1, by rw [g 142 (by decide)]; exact w1.2⟩ ⟨by rw [g 1 (by decide)]; exact p1, (fv.2 13 (by decide)).trans rfl⟩ ⟨?_, ?_⟩
      (r.c_RLaw.lo ⟨fX1 18 (by decide), fX1 19 (by decide), fX1 20 (by decide), fX1 21 (by decide)⟩ e10 ⟨la.1.tr lc, la.2.1.tr l32⟩) zRCalls zREven ?_ ?_
    · rw [g 139 (by decide), k71, fv.2 33 (by decide), g13.2 33 (by decide), fm.2 33 (by decide), r33]
    · rw [g 139 (by decide), k81, fv.2 34 (by decide), g13.2 34 (by decide), fm.2 34 (by decide), r34]
    · refine RStreet.new (ok ls rfl) ⟨b0, b2⟩ b4 hI (fun j j0 j1 => by rw [hv j j0 j1, g13.1 20 (by decide) (by decide), hX 20 (by decide)]) ⟨v35, F2' 6 (by decide)⟩ l16
    · exact r.c_RU.cg (C := 26 :: 27 :: 1 :: CXR) (D := DT) (J := [13, 14, 15, 16, 17, 26, 27, 28, 30, 31, 32, 33, 34, 39]) fX1 F2 (by decide)
