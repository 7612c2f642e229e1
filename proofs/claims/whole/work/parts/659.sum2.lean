/-! TEXT: sums; the reference -/
/-- a loop with a counter that is no part of it -/
theorem cnt_ok {β γ : Type} {body : β → St → Rs (β ⊕ γ)} {P : γ → St → Prop} {x0 : β} {σ0 : St} (I : Nat → β → St → Prop) (k0 : Nat) (h0 : I k0 x0 σ0) (hm : k0 < 100000000)
    (hs : ∀ k x σ, I k x σ → Ok (body x σ) (Jx (fun x' σ' => ∃ k', k' < k ∧ I k' x' σ') P)) : Ok (itr FUEL body x0 σ0) P := by
  have key : ∀ (N k : Nat) (x : β) (σ : St), I k x σ → k < N → Ok (itr N body x σ) P := by
    intro N
    induction N with
    | zero => intro k x σ _ h; omega
    | succ N ih =>
      intro k x σ hI hm
      obtain ⟨r, σ', e, hr⟩ := hs k x σ hI
      unfold itr
      rw [e]
      cases r with
      | inl x' =>
        obtain ⟨k', h1, h2⟩ := hr
        exact ih k' x' σ' h2 (by omega)
      | inr y => exact ⟨y, σ', rfl, hr⟩
  exact key FUEL k0 x0 σ0 h0 (by unfold FUEL; omega)
def pP : List Tk → Int → Cd → Re
  | t :: u :: L, po, acc => if flt t po ≠ 0 then .inl (flt t po, t :: u :: L) else
      if u.1 = 42 ∨ u.1 = 47 then pP L u.1 (emi po (acc ++ [opnd t])) else .inr (u :: L, emi po (acc ++ [opnd t]))
  | L, _, _ => .inl (1, L)
/-- behind a product -/
def aft (so : Int) : Re → Re
  | .inr (u :: L, a) => if u.1 = 43 ∨ u.1 = 45 then pS L u.1 (-1) (emi so a) else .inr (u :: L, emi so a)
  | R => R
theorem pS_pP : ∀ (k : Nat) (L : List Tk), L.length ≤ k → ∀ so po a, pS L so po a = aft so (pP L po a) := by
  intro k
  induction k with
  | zero =>
    intro L hL so po a
    cases L with
    | nil => rfl
    | cons t L => simp at hL
  | succ k ih =>
    intro L hL so po a
    match L, hL with
    | [], _ => rfl
    | [t], _ => rfl
    | t :: u :: M, hL =>
      simp only [List.length_cons] at hL
      rw [pS, pP]
      by_cases f : flt t po ≠ 0
      · rw [if_pos f, if_pos f]; rfl
      · rw [if_neg f, if_neg f]
        by_cases m : u.1 = 42 ∨ u.1 = 47
        · rw [if_pos m, if_pos m]
          exact ih M (by omega) so u.1 _
        · rw [if_neg m, if_neg m]
          rfl
def ME (C : Int → Int) (n : Int) (τ : St) : Prop := CM C n τ ∧ WT τ
theorem ME.fm {C : Int → Int} {n : Int} {τ τ' : St} {D : List Nat} {J : List Int} (h : ME C n τ) (f : Fm D J τ τ') (d : (D.contains 8 = false ∧ J.contains 13 = false) ∧ D.contains 9 = false) : ME C n τ' := ⟨h.1.fm f d.1, h.2.fm f d.2⟩
theorem RT.fm {C : Int → Int} {n : Int} {τ τ' : St} {D : List Nat} {J : List Int} {L : List Tk} (h : RT C n τ L) (f : Fm D J τ τ') (d : J.contains 14 = false ∧ J.contains 15 = false ∧ J.contains 16 = false ∧ J.contains 17 = false) : RT C n τ' L := by
  have d1 : 14 ∉ J := by simpa using d.1
  have d2 : 15 ∉ J := by simpa using d.2.1
  have d3 : 16 ∉ J := by simpa using d.2.2.1
  have d4 : 17 ∉ J := by simpa using d.2.2.2
  cases L with
  | nil => exact h
  | cons t L =>
    unfold RT at h ⊢
    rw [f.2 14 d1, f.2 15 d2, f.2 16 d3, f.2 17 d4]
    exact h
def MR (C : Int → Int) (n : Int) (τ : St) (r : Int) (τ' : St) (R : Re) : Prop := match R with
  | .inl (k, L) => r = -1 ∧ Fm [15, 16, 17] [14, 15, 16, 17, 27, 28, 30, 31, 32] τ τ' ∧ LoC τ τ' ∧ τ' 0 31 = k ∧ ∃ t M, L = t :: M ∧ τ' 0 32 = t.2.2
  | .inr (L, acc) => r = 0 ∧ Fm [15, 16] [14, 15, 16, 17, 27] τ τ' ∧ LoC τ τ' ∧ RT C n τ' L ∧ MC τ' acc
theorem canAsk_eq {v : Int} {σ : St} : fX12_canAsk v σ = some (if 7 ≤ v ∧ v ≤ 16 then 1 else 0, σ) := by
  unfold fX12_canAsk
  rw [isIn_eq, bnd_some]
theorem flt_m1 {t : Tk} {po : Int} (h : po ≠ 47) : flt t po = flt t (-1) := by
  unfold flt
  by_cases k : t.1 = 257
  · rw [if_pos k, if_pos k, if_neg (fun q => h q.1), if_neg (by omega)]
  · rw [if_neg k, if_neg k]
    by_cases g : 270 ≤ t.1 ∧ t.1 ≤ 279
    · rw [if_pos ⟨h, g⟩, if_pos ⟨by decide, g⟩]
    · rw [if_neg (fun q => g q.2), if_neg (fun q => g q.2)]
theorem RT.len {C : Int → Int} {n : Int} {τ : St} {L : List Tk} (h : RT C n τ L) : 1 ≤ L.length := by
  obtain ⟨t, M, rfl⟩ := h.cons
  rw [List.length_cons]; omega
theorem RT.tl {C : Int → Int} {n : Int} {τ : St} {t : Tk} {L : List Tk} (h : RT C n τ (t :: L)) (e : t.1 ≠ 256) : ∃ u M, L = u :: M := by
  have a := (h.2.2.2 e).2.2
  cases L with
  | nil => exact False.elim a
  | cons u M => exact ⟨u, M, rfl⟩
theorem m_unit {C : Int → Int} {n : Int} {τ : St} {t : Tk} {L : List Tk} {acc : Cd} (c : CC C n) (e : ME C n τ) (h : RT C n τ (t :: L)) (mc : MC τ acc) (hl : t.1 ≠ 256 → acc.length < 400) : Ok (fX12_readUnit τ) fun r τ' => (flt t (-1) = 1 ∧ r = -1 ∧ Fm [] [31, 32] τ τ' ∧ τ' 0 31 = 1 ∧ τ' 0 32 = t.2.2) ∨ (flt t (-1) = 0 ∧ r = 0 ∧ t.1 ≠ 256 ∧ Fm [15, 16] [14, 15, 16, 17, 27] τ τ' ∧ LoC τ τ' ∧ RT C n τ' L ∧ MC τ' (acc ++ [opnd t])) := by
  have kr := h.1
  have fin : flt t (-1) = 0 → ∀ o a, opnd t = (o, a) → Ok (bnd (fX12_emits o a τ) fun r29 s30 => bnd (fX12_reads s30) fun r32 s33 => some ((0 : Int), s33)) fun r τ' => (flt t (-1) = 1 ∧ r = -1 ∧ Fm [] [31, 32] τ τ' ∧ τ' 0 31 = 1 ∧ τ' 0 32 = t.2.2) ∨ (flt t (-1) = 0 ∧ r = 0 ∧ t.1 ≠ 256 ∧ Fm [15, 16] [14, 15, 16, 17, 27] τ τ' ∧ LoC τ τ' ∧ RT C n τ' L ∧ MC τ' (acc ++ [opnd t])) := by
    intro h0 o a ho
    have t6 : t.1 ≠ 256 := by
      intro e
      unfold flt at h0
      rw [if_neg (by omega), if_neg (by omega)] at h0
      cases h0
    obtain ⟨s1, e1, f1, l1, c1⟩ := m_emit (o := o) (a := a) mc (hl t6)
    rw [e1, bnd_some, ko_bnd]
    have h1 := h.fm f1 (by decide)
    refine ok_mono (m_reads (e.fm f1 (by decide)).1 c (e.fm f1 (by decide)).2 h1 t6) ?_
    rintro _ s2 ⟨f2, r2⟩
    exact ok_ret (Or.inr ⟨h0, rfl, t6, (f1.mono (by decide) (by decide)).tr (f2.mono (by decide) (by decide)), l1.tr (LoC.fm f2 (by decide)), r2, by rw [ho]; exact c1.fm f2 (by decide)⟩)
  unfold fX12_readUnit
  rw [fld_eq]
  by_cases k2 : τ 0 16 = 2
  · obtain ⟨w0, w1, w2⟩ := kr.k2.2 k2
    rw [if_pos k2, fld_eq, canAsk_eq, bnd_some]
    by_cases g : 7 ≤ τ 0 17 ∧ τ 0 17 ≤ 16
    · rw [if_pos g, if_neg (by decide), bnd_some, if_neg (by decide), bnx_inl, if_neg (by decide), bnd_some, if_neg (by decide), fld_eq, w32_sm (by omega), bnd_some]
      have kk : t.1 = 263 + τ 0 17 := by rw [w2]; unfold kW; omega
      refine fin ?_ 1 (τ 0 17 - 7) ?_
      · unfold flt; rw [if_neg (by omega), if_pos ⟨by decide, by omega⟩]
      · unfold opnd; rw [if_neg (by omega)]; exact Prod.ext rfl (by show t.1 - 270 = τ 0 17 - 7; omega)
    · rw [if_neg g, if_pos rfl, bnd_some, if_pos rfl, fld_eq, if_neg (by omega)]
      obtain ⟨s1, e1, f1, a1, b1⟩ := m_errs (k := 1) h
      rw [e1, bnd_some, bnx_inr]
      have : flt t (-1) = 1 := by
        unfold flt
        have : t.1 = 260 + τ 0 17 ∨ t.1 = 263 + τ 0 17 := by rw [w2]; unfold kW; omega
        have : ¬ (270 ≤ t.1 ∧ t.1 ≤ 279) := by rw [w2]; unfold kW; omega
        rw [if_neg (by omega), if_neg (fun q => this q.2)]
      exact ok_ret (Or.inl ⟨this, rfl, f1, a1, b1⟩)
  · rw [if_neg k2, bnd_some, if_pos rfl, fld_eq]
    by_cases k3 : τ 0 16 = 3
    · rw [if_pos k3, bnx_inl, if_pos rfl, bnd_some, if_pos rfl, fld_eq, bnd_some]
      have kk := kr.k3.1.mp k3
      refine fin ?_ 0 (τ 0 17) ?_
      · unfold flt; rw [if_pos kk, if_neg (by omega)]
      · unfold opnd; rw [if_pos kk]; exact Prod.ext rfl (kr.k3.2 kk).1.symm
    · rw [if_neg k3]
      obtain ⟨s1, e1, f1, a1, b1⟩ := m_errs (k := 1) h
      rw [e1, bnd_some, bnx_inr]
      have : flt t (-1) = 1 := by
        unfold flt
        have a := kr.k3.1
        have b := kr.k2.1
        rw [if_neg (by omega), if_neg (by omega)]
      exact ok_ret (Or.inl ⟨this, rfl, f1, a1, b1⟩)
