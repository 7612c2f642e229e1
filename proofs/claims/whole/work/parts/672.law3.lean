/-! TEXT: the law; the reference -/
/-- what a line's reading needs and keeps -/
def MQL (C : Int → Int) (n : Int) (τ s : St) (ls : List Ln) (L : List Tk) (a : Cd) : Prop := Fm DM JM τ s ∧ LoC τ s ∧ Lo32 τ s ∧ ML s ls ∧ RT C n s L ∧ MC s a ∧ a.length + L.length ≤ 401 ∧ s 0 28 = 0
theorem MQL.go {C : Int → Int} {n : Int} {τ s s' : St} {ls : List Ln} {L L' : List Tk} {a a' : Cd} {D : List Nat} {J : List Int} (h : MQL C n τ s ls L a) (f : Fm D J s s') (l : LoC s s') (d : (D.contains 11 = false ∧ D.contains 12 = false ∧ D.contains 13 = false ∧ D.contains 14 = false) ∧ (∀ k, k ∈ D → k ∈ DM) ∧ ∀ k, k ∈ J → k ∈ JM) (r : RT C n s' L') (m : MC s' a') (b : a'.length + L'.length ≤ 401) (z : s' 0 28 = 0) : MQL C n τ s' ls L' a' := by
  obtain ⟨h1, h2, h3, h4, _⟩ := h
  exact ⟨h1.tr (f.mono d.2.1 d.2.2), h2.tr l, h3.tr (Lo32.fm f d.1), h4.fm f d.1, r, m, b, z⟩
theorem MQL.st {C : Int → Int} {n : Int} {τ s : St} {ls : List Ln} {L : List Tk} {a : Cd} {k : Nat} {i v : Int} (h : MQL C n τ s ls L a) (hk : k = 11 ∨ k = 12 ∨ k = 13 ∨ k = 14) (hi : i = 32 + (ls.length : Int)) : MQL C n τ (up s k i v) ls L a := by
  obtain ⟨h1, h2, h3, h4, h5, h6, h7, h8⟩ := h
  obtain ⟨f, l, m⟩ := row_st (v := v) hk hi h4
  have f1 : Fm [k] [] s (up s k i v) := Fm.rf.up (by omega) List.mem_cons_self
  have q : LoC s (up s k i v) := fun j _ => by
    simp only [up_g]
    refine ⟨?_, ?_⟩ <;> rw [if_neg (by omega)]
  refine ⟨h1.tr f, h2.tr q, h3.tr l, m, h5.fm f1 (by decide), ⟨?_, fun j p hj => ?_⟩, h7, ?_⟩
  · rw [f1.2 27 (by decide)]; exact h6.1
  · obtain ⟨a1, a2⟩ := h6.2 j p hj
    simp only [up_g]
    refine ⟨?_, ?_⟩ <;> rw [if_neg (by omega)] <;> assumption
  · rw [f1.2 28 (by decide)]; exact h8
theorem MQL.bad {C : Int → Int} {n : Int} {τ s : St} {ls : List Ln} {t : Tk} {M : List Tk} {a : Cd} {k : Int} {R : (Int × List Tk) ⊕ (List Ln × Cd)} (h : MQL C n τ s ls (t :: M) a) (hR : R = .inl (k, t :: M)) : ∃ s', fX12_errs k s = some (-1, s') ∧ MN τ (-1) s' R := by
  obtain ⟨h1, h2, h3, h4, h5, _⟩ := h
  obtain ⟨s', e, f, x, y⟩ := m_errs (k := k) h5
  refine ⟨s', e, ?_⟩
  rw [hR]
  exact ⟨rfl, h1.tr (f.mono (by decide) (by decide)), h2.tr (LoC.fm f (by decide)), h3.tr (Lo32.fm f (by decide)), x, t, M, rfl, y⟩
theorem MQL.me {C : Int → Int} {n : Int} {τ s : St} {ls : List Ln} {L : List Tk} {a : Cd} (h : MQL C n τ s ls L a) (e : ME C n τ) : ME C n s := e.fm h.1 (by decide)
theorem MQL.read {C : Int → Int} {n : Int} {τ s : St} {ls : List Ln} {t : Tk} {M : List Tk} {a : Cd} (c : CC C n) (e : ME C n τ) (h : MQL C n τ s ls (t :: M) a) (u6 : t.1 ≠ 256) : Ok (fX12_reads s) fun _ s' => MQL C n τ s' ls M a ∧ Fm [] [14, 15, 16, 17] s s' := by
  have e1 := h.me e
  refine ok_mono (m_reads e1.1 c e1.2 h.2.2.2.2.1 u6) ?_
  rintro _ s' ⟨f, r⟩
  have b := h.2.2.2.2.2.2.1
  rw [List.length_cons] at b
  exact ⟨h.go f (LoC.fm f (by decide)) (by decide) r (h.2.2.2.2.2.1.fm f (by decide)) (by omega) (by rw [f.2 28 (by decide)]; exact h.2.2.2.2.2.2.2), f⟩
