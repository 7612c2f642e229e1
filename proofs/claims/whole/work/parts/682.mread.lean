/-! TEXT: the reference reads a text -/
abbrev DA : List Nat := [11, 12, 13, 14, 15, 16, 17, 18, 19, 20]
abbrev JA : List Int := [14, 15, 16, 17, 26, 27, 28, 30, 31, 32]
def LoA (τ s : St) : Prop := LoC τ s ∧ Lo32 τ s ∧ LoT τ s
def MRd (τ : St) (r : Int) (s : St) (R : (Int × List Tk) ⊕ (List Ln × Cd)) : Prop := (Fm DA JA τ s ∧ LoA τ s ∧ s 0 26 = 0) ∧ match R with
  | .inl (k, L) => r = -1 ∧ s 0 31 = k ∧ ∃ t M, L = t :: M ∧ s 0 32 = t.2.2
  | .inr (ls, a) => r = ls.length ∧ MC s a ∧ ML s ls
def MRg (τ : St) (Inv : List Ln → St → Prop) (r : Int) (s : St) (R : (Int × List Tk) ⊕ List Ln) : Prop := (Fm DA JA τ s ∧ LoA τ s ∧ s 0 26 = 0) ∧ match R with
  | .inl (k, L) => r = -1 ∧ s 0 31 = k ∧ ∃ t M, L = t :: M ∧ s 0 32 = t.2.2
  | .inr ls => r = ls.length ∧ ∃ X, (∀ k, k ≠ 0 → s k = X k) ∧ Inv ls X
theorem Lo32.rf {τ : St} : Lo32 τ τ := fun _ _ => ⟨rfl, rfl, rfl, rfl⟩
theorem LoA.fm {τ s : St} {J : List Int} (f : Fm [] J τ s) : LoA τ s := ⟨LoC.fm f (by decide), Lo32.fm f (by decide), LoT.rf.fm f⟩
theorem LoA.tr {τ s s' : St} (h : LoA τ s) (h2 : LoA s s') : LoA τ s' :=
  ⟨h.1.tr h2.1, h.2.1.tr h2.2.1, ⟨fun i hi => ⟨((h2.2.2.1 i hi).1).trans (h.2.2.1 i hi).1, ((h2.2.2.1 i hi).2).trans (h.2.2.1 i hi).2⟩, fun i hi => (h2.2.2.2 i hi).trans (h.2.2.2 i hi)⟩⟩
theorem LoT.of {τ s : St} {D : List Nat} {J : List Int} (f : Fm D J τ s) (d : D.contains 18 = false ∧ D.contains 19 = false ∧ D.contains 20 = false) : LoT τ s := by
  have d1 : 18 ∉ D := by simpa using d.1
  have d2 : 19 ∉ D := by simpa using d.2.1
  have d3 : 20 ∉ D := by simpa using d.2.2
  unfold LoT
  rw [f.1 18 (by decide) d1, f.1 19 (by decide) d2, f.1 20 (by decide) d3]
  exact ⟨fun _ _ => ⟨rfl, rfl⟩, fun _ _ => rfl⟩
theorem m_start {C : Int → Int} {n : Int} {τ : St} {L : List Tk} (c : CC C n) (e : ME C n τ) (p0 : τ 0 14 = 0) (hL : TL C 0 L) {K : St → Rs Int} {P : Int → St → Prop} (hK : ∀ s, Fm [] [14, 15, 16, 17, 26] τ s → s 0 26 = 0 → ME C n s → RT C n s L → Ok (K s) P) : Ok (put τ 0 26 0 fun s1 => bnd (fX12_reads s1) fun r2 s3 => K s3) P := by
  rw [put_eq, ko_bnd]
  have f0 : Fm [] [26] τ (up τ 0 26 0) := Fm.rf.u0 (by decide)
  have a0 : (up τ 0 26 0) 0 26 = 0 := rfl
  have a14 : (up τ 0 26 0) 0 14 = 0 := (f0.2 14 (by decide)).trans p0
  have e0 := e.fm f0 (by decide)
  generalize up τ 0 26 0 = s0 at *
  refine ok_mono (reads_ok e0.1 c e0.2 ⟨by omega, by have := c.1; omega⟩ (by rw [a14]; exact hL)) ?_
  rintro _ s ⟨f1, rt⟩
  exact hK s ((f0.mono (by decide) (by decide)).tr (f1.mono (by decide) (by decide))) ((f1.2 26 (by decide)).trans a0) (e0.fm f1 (by decide)) rt
theorem m_read0 {C : Int → Int} {n : Int} {τ : St} {L : List Tk} (c : CC C n) (e : ME C n τ) (p0 : τ 0 14 = 0 ∧ τ 0 27 = 0 ∧ τ 0 28 = 0) (hL : TL C 0 L) : Ok (fX12_readsText 0 τ) fun r s => MRd τ r s (pLs L.length L [] []) := by
  unfold fX12_readsText
  simp only [Int.reduceEq, if_false, bnd_ret]
  refine m_start c e p0.1 hL fun s f0 a0 e1 rt => ?_
  refine ok_mono (m_lines (acc := []) c e1 rt ⟨(f0.2 27 (by decide)).trans p0.2.1, fun j p hj => by simp at hj⟩ ((f0.2 28 (by decide)).trans p0.2.2) (by have := x_len c hL; simp only [List.length_nil]; omega)) ?_
  intro r s1 h1
  generalize pLs L.length L [] [] = R at *
  match R, h1 with
  | .inl (k, L'), ⟨hr0, f1, lc, l32, k1, t, M, eL, k2⟩ =>
    subst hr0
    exact ⟨⟨(f0.mono (by decide) (by decide)).tr (f1.mono (by decide) (by decide)), (LoA.fm f0).tr ⟨lc, l32, LoT.of f1 (by decide)⟩, (f1.2 26 (by decide)).trans a0⟩, rfl, k1, t, M, eL, k2⟩
  | .inr (ls, a), ⟨hr0, f1, lc, l32, mc, ml⟩ =>
    subst hr0
    exact ⟨⟨(f0.mono (by decide) (by decide)).tr (f1.mono (by decide) (by decide)), (LoA.fm f0).tr ⟨lc, l32, LoT.of f1 (by decide)⟩, (f1.2 26 (by decide)).trans a0⟩, rfl, mc, ml⟩
theorem MGs.rg {τ τ0 s : St} {Inv : List Ln → St → Prop} {r : Int} {R : (Int × List Tk) ⊕ List Ln} (f0 : Fm [] [14, 15, 16, 17, 26] τ0 τ) (a0 : τ 0 26 = 0) (h : MGs τ Inv r s R) : MRg τ0 Inv r s R := by
  match R, h with
  | .inl (k, L'), ⟨hr0, f1, lt, k1, t, M, eL, k2⟩ =>
    subst hr0
    exact ⟨⟨(f0.mono (by decide) (by decide)).tr (f1.mono (by decide) (by decide)), (LoA.fm f0).tr ⟨LoC.fm f1 (by decide), Lo32.fm f1 (by decide), lt⟩, (f1.2 26 (by decide)).trans a0⟩, rfl, k1, t, M, eL, k2⟩
  | .inr ls, ⟨hr0, X, ⟨f1, lt⟩, f2, hI⟩ =>
    subst hr0
    have f3 : Fm DL J4 τ s := (f1.mono (by decide) (by decide)).tr (f2.mono (by decide) (by decide))
    exact ⟨⟨(f0.mono (by decide) (by decide)).tr (f3.mono (by decide) (by decide)), (LoA.fm f0).tr ⟨LoC.fm f3 (by decide), Lo32.fm f3 (by decide), lt.fm f2⟩, (f3.2 26 (by decide)).trans a0⟩, rfl, X, fun k hk => f2.1 k hk (by simp), hI⟩
/-- four numbers a line -/
def I4 (k : Nat) (o : Int) (ls : List Ln) (X : St) : Prop := ∀ (j : Nat) (l : Ln), ls[j]? = some l → X k (64 + 4 * (j : Int)) = l.1 ∧ X k (64 + 4 * (j : Int) + 1) = l.2.1 - o ∧ X k (64 + 4 * (j : Int) + 2) = l.2.2.1 ∧ X k (64 + 4 * (j : Int) + 3) = l.2.2.2
theorem I4.app {k : Nat} {o : Int} {ls : List Ln} {X : St} {l : Ln} (h : I4 k o ls X) : I4 k o (ls ++ [l]) (Y4 X k (64 + 4 * (ls.length : Int)) o l) := by
  intro j l' hj
  unfold Y4
  simp only [up_g, true_and]
  rcases snoc_at hj with ⟨g, e⟩ | ⟨g, rfl⟩
  · obtain ⟨a, b, c, d⟩ := h j l' e
    refine ⟨?_, ?_, ?_, ?_⟩ <;> rw [if_neg (by omega), if_neg (by omega), if_neg (by omega), if_neg (by omega)] <;> assumption
  · subst g
    refine ⟨?_, ?_, ?_, ?_⟩ <;> (repeat (first | rw [if_pos (by omega)] | rw [if_neg (by omega)]))
theorem m_read1 {C : Int → Int} {n : Int} {τ : St} {L : List Tk} {P Q : Int} (c : CC C n) (e : ME C n τ) (p0 : τ 0 14 = 0) (hL : TL C 0 L) (q : PM τ P Q) : Ok (fX12_readsText 1 τ) fun r s => MRg τ (I4 18 0) r s (pGs 280 (pCall P Q) L.length L []) := by
  unfold fX12_readsText
  simp only [Int.reduceEq, if_false, if_true, bnd_ret]
  refine m_start c e p0 hL fun s f0 a0 e1 rt => ?_
  have q0 : PM s P Q := by unfold PM; rw [f0.2 7 (by decide), f0.2 6 (by decide)]; exact q
  unfold fX12_readCalls
  refine ok_mono (m_loop (w := 17) (p := 280) (line := pCall P Q) (f := fun x s => fX12_readCall (w32 (64 + w32 (4 * x))) s) (Inv := I4 18 0) (C := C) (n := n) (τ := s) (X0 := s) ⟨by decide, rfl⟩ (fun _ _ _ h => (pCall_in h).1) (fun X s' t M ls hm hI k0 hl => ?_) ⟨⟨Fm.rf, LoT.rf⟩, Fm.rf, rt⟩ (fun j l hj => by simp at hj) (x_len c hL)) fun r s1 h1 => h1.rg f0 a0
  exact ok_mono (m_call c e1 q0 hm k0 hl) fun r s2 h2 => h2.inv fun l M _ => hI.app
theorem m_read2 {C : Int → Int} {n : Int} {τ : St} {L : List Tk} {P Q : Int} (c : CC C n) (e : ME C n τ) (p0 : τ 0 14 = 0) (hL : TL C 0 L) (q : PM τ P Q) : Ok (fX12_readsText 2 τ) fun r s => MRg τ (I4 19 285) r s (pGs 284 (pDeed P Q) L.length L []) := by
  unfold fX12_readsText
  simp only [Int.reduceEq, if_false, if_true, bnd_ret]
  refine m_start c e p0 hL fun s f0 a0 e1 rt => ?_
  have q0 : PM s P Q := by unfold PM; rw [f0.2 7 (by decide), f0.2 6 (by decide)]; exact q
  unfold fX12_readEvenings
  refine ok_mono (m_loop (w := 21) (p := 284) (line := pDeed P Q) (f := fun x s => fX12_readDeed (w32 (64 + w32 (4 * x))) s) (Inv := I4 19 285) (C := C) (n := n) (τ := s) (X0 := s) ⟨by decide, rfl⟩ (fun _ _ _ h => (pDeed_in h).1) (fun X s' t M ls hm hI k0 hl => ?_) ⟨⟨Fm.rf, LoT.rf⟩, Fm.rf, rt⟩ (fun j l hj => by simp at hj) (x_len c hL)) fun r s1 h1 => h1.rg f0 a0
  exact ok_mono (m_deed c e1 q0 hm k0 hl) fun r s2 h2 => h2.inv fun l M _ => hI.app
/-- the feet between two, of the lines so far -/
def RC (C : Int → Int) (ls : List Ln) : Prop := ∀ (j : Nat) (l : Ln), ls[j]? = some l → C ((j : Int) * 4) = l.1 ∧ C ((j : Int) * 4 + 1) = l.2.1 ∧ C ((j : Int) * 4 + 2) = l.2.2.1
def I20 (Q : Int) (ls : List Ln) (X : St) : Prop := ∀ C, RC C ls → ∀ a b, 0 ≤ a → a < 12 → 0 ≤ b → b < 12 → X 20 (144 + 12 * a + b) = fm ls.length C a b
theorem fup_at {X : St} {i v j : Int} : fup X i v 20 j = if j = i ∧ (X 20 i = 0 ∨ v < X 20 i) then v else X 20 j := by
  unfold fup
  by_cases g : X 20 i = 0 ∨ v < X 20 i
  · rw [if_pos g, up_g]
    by_cases e : j = i
    · rw [if_pos ⟨rfl, e⟩, if_pos ⟨e, g⟩]
    · rw [if_neg (fun z => e z.2), if_neg (fun z => e z.1)]
  · rw [if_neg g, if_neg (fun z => g z.2)]
theorem I20.app {Q : Int} {ls : List Ln} {X : St} {l : Ln} (hQ : Q ≤ 12) (h : I20 Q ls X) (hl : 0 ≤ l.1 ∧ l.1 ≤ Q - 1 ∧ 0 ≤ l.2.1 ∧ l.2.1 ≤ Q - 1 ∧ l.1 ≠ l.2.1) : I20 Q (ls ++ [l]) (YR X l) := by
  intro C hC a b a0 a1 b0 b1
  obtain ⟨l0, l1, m0, m1, ne⟩ := hl
  have hx := h C (fun j l' hj => hC j l' (by
    have lt : j < ls.length := by
      by_cases g : j < ls.length
      · exact g
      · rw [List.getElem?_eq_none (by omega)] at hj; cases hj
    rw [List.getElem?_append_left lt]; exact hj)) a b a0 a1 b0 b1
  obtain ⟨c0, c1, c2⟩ := hC ls.length l (by rw [List.getElem?_append_right (Nat.le_refl _)]; simp)
  rw [List.length_append, List.length_singleton, fm, c0, c1, c2, ← hx]
  unfold YR
  rw [fup_at, fup_at, fup_at]
  by_cases e1 : l.1 = a ∧ l.2.1 = b
  · rw [if_pos (Or.inl e1)]
    rw [if_neg (show ¬ (144 + 12 * a + b = 144 + 12 * l.2.1 + l.1 ∧ _) from fun z => by have := z.1; omega), e1.1, e1.2]
    by_cases g : X 20 (144 + 12 * a + b) = 0 ∨ l.2.2.1 < X 20 (144 + 12 * a + b)
    · rw [if_pos ⟨rfl, g⟩, if_pos g]
    · rw [if_neg (fun z => g z.2), if_neg g]
  · by_cases e2 : l.1 = b ∧ l.2.1 = a
    · rw [if_pos (Or.inr e2), e2.1, e2.2]
      rw [if_neg (show ¬ (144 + 12 * a + b = 144 + 12 * b + a ∧ _) from fun z => by have := z.1; omega)]
      by_cases g : X 20 (144 + 12 * a + b) = 0 ∨ l.2.2.1 < X 20 (144 + 12 * a + b)
      · rw [if_pos ⟨rfl, g⟩, if_pos g]
      · rw [if_neg (fun z => g z.2), if_neg g]
    · rw [if_neg (show ¬ ((l.1 = a ∧ l.2.1 = b) ∨ (l.1 = b ∧ l.2.1 = a)) from fun z => z.elim e1 e2), if_neg (show ¬ (144 + 12 * a + b = 144 + 12 * l.2.1 + l.1 ∧ _) from fun z => by have := z.1; omega), if_neg (show ¬ (144 + 12 * a + b = 144 + 12 * l.1 + l.2.1 ∧ _) from fun z => by have := z.1; omega)]
theorem m_read3 {C : Int → Int} {n : Int} {τ : St} {L : List Tk} {P Q : Int} (c : CC C n) (e : ME C n τ) (p0 : τ 0 14 = 0) (hL : TL C 0 L) (q : PM τ P Q) : Ok (fX12_readsText 3 τ) fun r s => MRg τ (I20 Q) r s (pGs 289 (pRoad Q) L.length L []) := by
  have q12 := q.2.2.2.2.2
  unfold fX12_readsText
  simp only [Int.reduceEq, if_false, if_true, bnd_ret]
  refine m_start c e p0 hL fun s f0 a0 e1 rt => ?_
  have q0 : PM s P Q := by unfold PM; rw [f0.2 7 (by decide), f0.2 6 (by decide)]; exact q
  unfold fX12_readStreet
  rw [ko_bnd]
  refine for_ok 144 (fun i x t => x = (i : Int) ∧ WX s t ∧ (∀ k, k ≠ 20 → t k = s k) ∧ ∀ j : Int, 144 ≤ j → j < 144 + i → t 20 j = 0) (by decide) ⟨rfl, ⟨Fm.rf, LoT.rf⟩, fun _ _ => rfl, fun j _ _ => by omega⟩ ?_ ?_
  · rintro i x t hi ⟨rfl, wx, ts, hz⟩
    rw [if_pos (by omega), w32_sm (by omega), sto_eq (by omega), w32_nat (by omega)]
    refine ok_ret ⟨rfl, wx.st20 (by omega), fun k hk => by rw [up_ne hk]; exact ts k hk, fun j j0 j1 => ?_⟩
    rw [up_g]
    by_cases g : j = 144 + (i : Int)
    · rw [if_pos ⟨rfl, g⟩]
    · rw [if_neg (fun z => g z.2)]
      exact hz j j0 (by omega)
  · rintro x t ⟨rfl, wx, ts, hz⟩
    rw [if_neg (by omega)]
    refine ok_ret (show Ok _ _ from ?_)
    have ft : Fm [20] [] s t := ⟨fun k h0 hk => ts k (by simpa using hk), fun i _ => by rw [ts 0 (by decide)]⟩
    refine ok_mono (m_loop (w := 26) (p := 289) (line := pRoad Q) (f := fun _ s => fX12_readRoad s) (Inv := I20 Q) (C := C) (n := n) (τ := s) (X0 := t) ⟨by decide, rfl⟩ (fun _ _ _ h => (pRoad_in h).1) (fun X s' t M ls hm hI k0 hl => ?_) ⟨wx, Fm.rf, rt.fm ft (by decide)⟩ (fun C' _ a b a0 a1 b0 b1 => hz _ (by omega) (by omega)) (x_len c hL)) fun r s1 h1 => h1.rg f0 a0
    refine ok_mono (m_road c e1 q0 hm k0) fun r s2 h2 => h2.inv fun l M hR => ?_
    have := pRoad_in hR
    exact hI.app q12 ⟨this.2.1, this.2.2.1, this.2.2.2.1, this.2.2.2.2.1, this.2.2.2.2.2.1⟩
