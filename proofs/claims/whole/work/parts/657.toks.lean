/-! TEXT: one token, one word of code; both sides -/
abbrev Cd := List (Int × Int)
abbrev Re := (Int × List Tk) ⊕ (List Tk × Cd)
def GL : List Tk → Prop
  | [] => False
  | t :: L => (t.1 = 256 ∧ L = []) ∨ (t.1 ≠ 256 ∧ GL L)
theorem TL.gl {C : Int → Int} {n : Int} (c : CC C n) : ∀ {L : List Tk} {p : Int}, 0 ≤ p → p ≤ n → TL C p L → GL L := by
  intro L
  induction L with
  | nil => intro p _ _ h; exact h
  | cons t L ih =>
    intro p p0 p1 h
    obtain ⟨s, s0, s1⟩ := h
    rcases s1 with ⟨_, t1, _, rfl⟩ | ⟨c1, e, he, ht, h⟩
    · exact Or.inl ⟨t1, rfl⟩
    · have sn := in_n c c1
      have b := s0.1
      have be := he.bd c sn
      exact Or.inr ⟨ht.k (c.2.1 s (by omega) sn), ih (by omega) be.2 h⟩
theorem GL.tl {t : Tk} {L : List Tk} (h : GL (t :: L)) (e : t.1 ≠ 256) : GL L := by
  rcases h with ⟨a, _⟩ | ⟨_, b⟩
  · exact absurd a e
  · exact b
theorem GL.ne {L : List Tk} (h : GL L) : L ≠ [] := by
  intro e
  rw [e] at h
  exact h
theorem GL.cons {L : List Tk} (h : GL L) : ∃ t M, L = t :: M := by
  cases L with
  | nil => exact False.elim h
  | cons t M => exact ⟨t, M, rfl⟩
/-! the class -/
theorem x_kind {σ : St} {t : Tk} {L : List Tk} (h : CT σ (t :: L)) : fX8_kind σ = some (t.1, σ) := by
  obtain ⟨⟨h0, h1, h2⟩, h3⟩ := h
  have a := (h3 0 t rfl).1
  rw [List.length_cons] at h1
  unfold fX8_kind
  rw [fld_eq, lod_eq (by omega), show σ 145 5 = σ 145 5 + ((0 : Nat) : Int) by omega, a]
theorem x_place {σ : St} {t : Tk} {L : List Tk} (h : CT σ (t :: L)) : fX8_place σ = some (t.2.2, σ) := by
  obtain ⟨⟨h0, h1, h2⟩, h3⟩ := h
  have a := (h3 0 t rfl).2.1
  rw [List.length_cons] at h1
  unfold fX8_place
  rw [fld_eq, lod_eq (by omega), show σ 145 5 = σ 145 5 + ((0 : Nat) : Int) by omega, a]
theorem x_num {σ : St} {t : Tk} {L : List Tk} (h : CT σ (t :: L)) : ∃ v, fX8_number σ = some (v, σ) ∧ (t.1 = 257 → v = t.2.1) := by
  obtain ⟨⟨h0, h1, h2⟩, h3⟩ := h
  have a := (h3 0 t rfl).2.2
  rw [List.length_cons] at h1
  unfold fX8_number
  rw [fld_eq, lod_eq (by omega)]
  refine ⟨_, rfl, fun e => ?_⟩
  rw [show σ 145 5 = σ 145 5 + ((0 : Nat) : Int) by omega]
  exact a e
theorem x_adv {σ : St} {t : Tk} {L : List Tk} (h : CT σ (t :: L)) (g : GL L) : ∃ σ', fX8_advance σ = some (0, σ') ∧ Fr [145] σ σ' ∧ CT σ' L := by
  obtain ⟨⟨h0, h1, h2⟩, h3⟩ := h
  rw [List.length_cons] at h1
  obtain ⟨u, M, rfl⟩ := g.cons
  rw [List.length_cons] at h1
  unfold fX8_advance
  rw [fld_eq, fld_eq, if_pos (by omega), fld_eq, put_eq, w32_sm (by omega)]
  refine ⟨_, rfl, Fr.rf.up (by decide), ⟨?_, ?_, ?_⟩, fun j v hj => ?_⟩
  · show 0 ≤ σ 145 5 + 1; omega
  · show σ 145 5 + 1 + ((u :: M).length : Int) = σ 145 4 + 1
    rw [List.length_cons]; omega
  · exact h2
  · have a := h3 (j + 1) v (by rw [List.getElem?_cons_succ]; exact hj)
    show σ 146 (σ 145 5 + 1 + j) = v.1 ∧ σ 148 (σ 145 5 + 1 + j) = v.2.2 ∧ (v.1 = 257 → σ 147 (σ 145 5 + 1 + j) = v.2.1)
    rw [show σ 145 5 + 1 + (j : Int) = σ 145 5 + ((j + 1 : Nat) : Int) by omega]
    exact a
def XC (σ : St) (acc : Cd) : Prop := σ 142 0 = 1 ∧ σ 142 2 = acc.length ∧ ∀ (j : Nat) (p : Int × Int), acc[j]? = some p → σ 143 j = enc p.1 p.2
theorem XC.fr {σ σ' : St} {S : List Nat} {acc : Cd} (h : XC σ acc) (f : Fr S σ σ') (d : S.contains 142 = false ∧ S.contains 143 = false) : XC σ' acc := by
  have d1 : 142 ∉ S := by simpa using d.1
  have d2 : 143 ∉ S := by simpa using d.2
  unfold XC
  rw [f 142 d1, f 143 d2]
  exact h
theorem snoc_at {α : Type} {l : List α} {a p : α} {j : Nat} (h : (l ++ [a])[j]? = some p) : (j < l.length ∧ l[j]? = some p) ∨ (j = l.length ∧ p = a) := by
  by_cases g : j < l.length
  · rw [List.getElem?_append_left g] at h
    exact Or.inl ⟨g, h⟩
  · rw [List.getElem?_append_right (by omega)] at h
    have z : j - l.length = 0 := by
      by_cases q : j - l.length = 0
      · exact q
      · rw [List.getElem?_eq_none (by simp; omega)] at h; cases h
    rw [z] at h
    simp at h
    exact Or.inr ⟨by omega, h.symm⟩
theorem x_emit {σ : St} {acc : Cd} {v o a : Int} (h : XC σ acc) (hl : acc.length < 400) (hv : v = enc o a) : ∃ r σ', fX6_add 142 143 400 v σ = some (r, σ') ∧ Fr [142, 143] σ σ' ∧ XC σ' (acc ++ [(o, a)]) := by
  obtain ⟨h0, h1, h2⟩ := h
  rw [row_add1 (by decide) h0 (by omega) (by omega), if_pos (show σ 142 2 < ((400 : Nat) : Int) by omega)]
  refine ⟨_, _, rfl, (Fr.rf.up (by decide)).up (by decide), h0, ?_, fun j p hj => ?_⟩
  · show σ 142 2 + 1 = _
    rw [List.length_append, List.length_singleton]; omega
  · show (if 143 = 143 ∧ (j : Int) = σ 142 2 then v else σ 143 j) = _
    rcases snoc_at hj with ⟨g, e⟩ | ⟨g, rfl⟩
    · rw [if_neg (by omega)]; exact h2 j p e
    · rw [if_pos ⟨rfl, by omega⟩]; exact hv
/-! the reference -/
theorem RT.cons {C : Int → Int} {n : Int} {τ : St} {L : List Tk} (h : RT C n τ L) : ∃ t M, L = t :: M := by
  cases L with
  | nil => exact False.elim h
  | cons t M => exact ⟨t, M, rfl⟩
theorem kW_bd {W : Int} (h : 0 ≤ W ∧ W ≤ 27) : 260 ≤ kW W ∧ kW W ≤ 290 := by unfold kW; omega
theorem kW_inj {W V : Int} (h : 0 ≤ W ∧ W ≤ 27) (h' : 0 ≤ V ∧ V ≤ 27) (e : kW W = kW V) : W = V := by unfold kW at e; omega
theorem KR.k3 {t : Tk} {K W : Int} (h : KR t K W) : (K = 3 ↔ t.1 = 257) ∧ (t.1 = 257 → W = t.2.1 ∧ 0 ≤ W ∧ W ≤ 9999) := by
  rcases h with ⟨a, b⟩ | ⟨a, b, c, d⟩ | ⟨a, b, c, d⟩ | ⟨a, b, d⟩ | ⟨a, b | b⟩
  · omega
  · exact ⟨by omega, fun _ => ⟨c, d⟩⟩
  · have := kW_bd ⟨b, c⟩; omega
  · unfold isMk at d; omega
  · omega
  · omega
theorem KR.k0 {t : Tk} {K W : Int} (h : KR t K W) : K = 0 ↔ t.1 = 256 := by
  rcases h with ⟨a, b⟩ | ⟨a, b, c, d⟩ | ⟨a, b, c, d⟩ | ⟨a, b, d⟩ | ⟨a, b | b⟩
  · omega
  · omega
  · have := kW_bd ⟨b, c⟩; omega
  · unfold isMk at d; omega
  · omega
  · omega
theorem KR.k2 {t : Tk} {K W : Int} (h : KR t K W) : (K = 2 ↔ 260 ≤ t.1) ∧ (K = 2 → 0 ≤ W ∧ W ≤ 27 ∧ t.1 = kW W) := by
  rcases h with ⟨a, b⟩ | ⟨a, b, c, d⟩ | ⟨a, b, c, d⟩ | ⟨a, b, d⟩ | ⟨a, b | b⟩
  · omega
  · omega
  · have := kW_bd ⟨b, c⟩; exact ⟨by omega, fun _ => ⟨b, c, d⟩⟩
  · unfold isMk at d; omega
  · omega
  · omega
theorem m_sign {C : Int → Int} {n : Int} {τ : St} {t : Tk} {L : List Tk} {s : Int} (h : RT C n τ (t :: L)) (hs : isMk s) : fX12_isSign s τ = some (if t.1 = s then 1 else 0, τ) := by
  unfold fX12_isSign
  rw [fld_eq]
  have hs' : s ≤ 62 := by unfold isMk at hs; omega
  rcases h.1 with ⟨a, b⟩ | ⟨a, b, c, d⟩ | ⟨a, b, c, d⟩ | ⟨a, b, d⟩ | ⟨a, b | b⟩
  · rw [if_neg (by omega), if_neg (by omega)]
  · rw [if_neg (by omega), if_neg (by omega)]
  · have := kW_bd ⟨b, c⟩
    rw [if_neg (by omega), if_neg (by omega)]
  · rw [if_pos a, fld_eq, b]
    by_cases g : t.1 = s
    · rw [if_pos g, if_pos g]
    · rw [if_neg g, if_neg g]
  · rw [if_neg (by omega), if_neg (by omega)]
  · rw [if_neg (by omega), if_neg (fun e => b.2.2 (by rw [e]; exact hs))]
theorem m_word {C : Int → Int} {n : Int} {τ : St} {t : Tk} {L : List Tk} {w : Int} (h : RT C n τ (t :: L)) (hw : 0 ≤ w ∧ w ≤ 27) : fX12_isWord w τ = some (if t.1 = kW w then 1 else 0, τ) := by
  unfold fX12_isWord
  rw [fld_eq]
  have kb := kW_bd hw
  by_cases e : τ 0 16 = 2
  · rw [if_pos e, fld_eq]
    obtain ⟨a, b, c⟩ := h.1.k2.2 e
    by_cases g : τ 0 17 = w
    · rw [if_pos g, if_pos (by rw [c, g])]
    · rw [if_neg g, if_neg (fun q => g (kW_inj ⟨a, b⟩ hw (by rw [← c, q])))]
  · rw [if_neg e, if_neg (fun q => e (h.1.k2.1.mpr (by omega)))]
/-- the reference goes on to the next token -/
theorem m_reads {C : Int → Int} {n : Int} {τ : St} {t : Tk} {L : List Tk} (hc : CM C n τ) (c : CC C n) (w : WT τ) (h : RT C n τ (t :: L)) (e : t.1 ≠ 256) : Ok (fX12_reads τ) fun _ τ' => Fm [] [14, 15, 16, 17] τ τ' ∧ RT C n τ' L := by
  obtain ⟨_, _, _, h3⟩ := h
  obtain ⟨a, b, d⟩ := h3 e
  exact reads_ok hc c w ⟨a, b⟩ d
def MC (τ : St) (acc : Cd) : Prop := τ 0 27 = acc.length ∧ ∀ (j : Nat) (p : Int × Int), acc[j]? = some p → τ 15 (800 + j) = p.1 ∧ τ 16 (800 + j) = p.2
theorem MC.fm {τ τ' : St} {D : List Nat} {J : List Int} {acc : Cd} (h : MC τ acc) (f : Fm D J τ τ') (d : D.contains 15 = false ∧ D.contains 16 = false ∧ J.contains 27 = false) : MC τ' acc := by
  have d1 : 15 ∉ D := by simpa using d.1
  have d2 : 16 ∉ D := by simpa using d.2.1
  have d3 : 27 ∉ J := by simpa using d.2.2
  unfold MC
  rw [f.1 15 (by decide) d1, f.1 16 (by decide) d2, f.2 27 d3]
  exact h
/-- the code told stays -/
def LoC (τ τ' : St) : Prop := ∀ i, i < 800 → τ' 15 i = τ 15 i ∧ τ' 16 i = τ 16 i
theorem LoC.fm {τ τ' : St} {D : List Nat} {J : List Int} (f : Fm D J τ τ') (d : D.contains 15 = false ∧ D.contains 16 = false) : LoC τ τ' := by
  have d1 : 15 ∉ D := by simpa using d.1
  have d2 : 16 ∉ D := by simpa using d.2
  intro i _
  rw [f.1 15 (by decide) d1, f.1 16 (by decide) d2]
  exact ⟨rfl, rfl⟩
theorem LoC.tr {τ τ1 τ2 : St} (h : LoC τ τ1) (h2 : LoC τ1 τ2) : LoC τ τ2 := fun i hi => ⟨((h2 i hi).1).trans (h i hi).1, ((h2 i hi).2).trans (h i hi).2⟩
theorem LoC.rf {τ : St} : LoC τ τ := fun _ _ => ⟨rfl, rfl⟩
theorem m_emit {τ : St} {acc : Cd} {o a : Int} (h : MC τ acc) (hl : acc.length < 400) : ∃ τ', fX12_emits o a τ = some (0, τ') ∧ Fm [15, 16] [27] τ τ' ∧ LoC τ τ' ∧ MC τ' (acc ++ [(o, a)]) := by
  obtain ⟨h1, h2⟩ := h
  have e1 : up τ 15 (800 + τ 0 27) o 0 27 = τ 0 27 := rfl
  have e2 : up (up τ 15 (800 + τ 0 27) o) 16 (800 + τ 0 27) a 0 27 = τ 0 27 := rfl
  unfold fX12_emits
  rw [fld_eq, w32_sm (by omega), sto_eq (by omega), fld_eq, e1, w32_sm (by omega), sto_eq (by omega), fld_eq, e2, w32_sm (by omega), put_eq]
  refine ⟨_, rfl, ((Fm.rf.up (by decide) (by decide)).up (by decide) (by decide)).u0 (by decide), fun i hi => ⟨?_, ?_⟩, ?_, fun j p hj => ?_⟩
  · show (if 15 = 15 ∧ i = 800 + τ 0 27 then o else τ 15 i) = τ 15 i
    rw [if_neg (by omega)]
  · show (if 16 = 16 ∧ i = 800 + τ 0 27 then a else τ 16 i) = τ 16 i
    rw [if_neg (by omega)]
  · show τ 0 27 + 1 = _
    rw [List.length_append, List.length_singleton]; omega
  · show (if 15 = 15 ∧ (800 : Int) + j = 800 + τ 0 27 then o else τ 15 (800 + j)) = p.1 ∧ (if 16 = 16 ∧ (800 : Int) + j = 800 + τ 0 27 then a else τ 16 (800 + j)) = p.2
    rcases snoc_at hj with ⟨g, e⟩ | ⟨g, rfl⟩
    · rw [if_neg (by omega), if_neg (by omega)]; exact h2 j p e
    · rw [if_pos ⟨rfl, by omega⟩, if_pos ⟨rfl, by omega⟩]; exact ⟨rfl, rfl⟩
theorem m_errs {C : Int → Int} {n : Int} {τ : St} {t : Tk} {L : List Tk} {k : Int} (h : RT C n τ (t :: L)) : ∃ τ', fX12_errs k τ = some (-1, τ') ∧ Fm [] [31, 32] τ τ' ∧ τ' 0 31 = k ∧ τ' 0 32 = t.2.2 := by
  unfold fX12_errs
  rw [put_eq, fld_eq, put_eq]
  exact ⟨_, rfl, (Fm.rf.u0 (by decide)).u0 (by decide), rfl, h.2.1⟩
