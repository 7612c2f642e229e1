/-! TEXT: conditions; the reference -/
def mkk (x : Int) : Int := if x = 266 then 9 else if x = 265 then 10 else if x = 264 then 11 else 12
def dep : List Int → Int
  | [] => 0
  | x :: S => dep S + if x = 40 then 1 else 0
def popQ (q : Int) : List Int → List Int
  | [] => []
  | x :: S => if x = q then popQ q S else x :: S
def popR (q : Int) : List Int → Cd
  | [] => []
  | x :: S => if x = q then (sgk x, 0) :: popR q S else []
theorem popQ_c {q x : Int} {S : List Int} : popQ q (x :: S) = if x = q then popQ q S else x :: S := rfl
theorem popR_c {q x : Int} {S : List Int} : popR q (x :: S) = if x = q then (sgk x, 0) :: popR q S else [] := rfl
theorem popQ_ne {q : Int} {S : List Int} (h : hdS S ≠ q) : popQ q S = S ∧ popR q S = [] := by
  cases S with
  | nil => exact ⟨rfl, rfl⟩
  | cons x S =>
    have h : x ≠ q := h
    rw [popQ_c, popR_c, if_neg h, if_neg h]
    exact ⟨rfl, rfl⟩
theorem popS_lt {p : Int} {S : List Int} (h : hdS S < p) : popS p S = S ∧ popE p S = [] := by
  cases S with
  | nil => exact ⟨rfl, rfl⟩
  | cons x S =>
    have h : x < p := h
    rw [popS_c, popE_c, if_neg (by omega), if_neg (by omega)]
    exact ⟨rfl, rfl⟩
theorem pop9 : ∀ {S : List Int}, VS S → popQ 266 S = popS 266 S ∧ popR 266 S = popE 266 S := by
  intro S
  induction S with
  | nil => intro _; exact ⟨rfl, rfl⟩
  | cons x S ih =>
    intro h
    have a := h.2
    rw [popQ_c, popR_c, popS_c, popE_c]
    by_cases e : x = 266
    · rw [if_pos e, if_pos e, if_pos (by omega), if_pos (by omega), (ih h.1).1, (ih h.1).2]; exact ⟨rfl, rfl⟩
    · rw [if_neg e, if_neg e, if_neg (by omega), if_neg (by omega)]; exact ⟨rfl, rfl⟩
theorem pop10 {S : List Int} (h : VS S) (hd : hdS S < 266) : popQ 265 S = popS 265 S ∧ popR 265 S = popE 265 S := by
  cases S with
  | nil => exact ⟨rfl, rfl⟩
  | cons x S =>
    have a := h.2
    have hd : x < 266 := hd
    by_cases e : x = 265
    · have b : hdS S < 265 := by omega
      rw [popQ_c, popR_c, popS_c, popE_c, if_pos e, if_pos e, if_pos (by omega), if_pos (by omega), (popQ_ne (S := S) (q := 265) (by omega)).1, (popQ_ne (S := S) (q := 265) (by omega)).2, (popS_lt b).1, (popS_lt b).2]
      exact ⟨rfl, rfl⟩
    · rw [(popQ_ne (S := x :: S) (q := 265) e).1, (popQ_ne (S := x :: S) (q := 265) e).2, (popS_lt (S := x :: S) (p := 265) (by show x < 265; omega)).1, (popS_lt (S := x :: S) (p := 265) (by show x < 265; omega)).2]
      exact ⟨rfl, rfl⟩
theorem pop11 {S : List Int} (h : VS S) (hd : hdS S < 265) : popQ 264 S = popS 264 S ∧ popR 264 S = popE 264 S := by
  cases S with
  | nil => exact ⟨rfl, rfl⟩
  | cons x S =>
    have a := h.2
    have hd : x < 265 := hd
    by_cases e : x = 264
    · have b : hdS S < 264 := by omega
      rw [popQ_c, popR_c, popS_c, popE_c, if_pos e, if_pos e, if_pos (by omega), if_pos (by omega), (popQ_ne (S := S) (q := 264) (by omega)).1, (popQ_ne (S := S) (q := 264) (by omega)).2, (popS_lt b).1, (popS_lt b).2]
      exact ⟨rfl, rfl⟩
    · rw [(popQ_ne (S := x :: S) (q := 264) e).1, (popQ_ne (S := x :: S) (q := 264) e).2, (popS_lt (S := x :: S) (p := 264) (by show x < 264; omega)).1, (popS_lt (S := x :: S) (p := 264) (by show x < 264; omega)).2]
      exact ⟨rfl, rfl⟩
/-- all pops of 264, in two goes -/
theorem pop12 {S : List Int} (h : VS S) (hd : hdS S < 266) : popS 264 (popS 265 S) = popS 264 S ∧ popE 265 S ++ popE 264 (popS 265 S) = popE 264 S := by
  cases S with
  | nil => exact ⟨rfl, rfl⟩
  | cons x S =>
    have a := h.2
    have hd : x < 266 := hd
    by_cases e : x = 265
    · have b : hdS S < 265 := by omega
      rw [popS_c, popE_c, popS_c, popE_c, if_pos (by omega), if_pos (by omega), if_pos (by omega), if_pos (by omega), (popS_lt b).1, (popS_lt b).2]
      exact ⟨rfl, rfl⟩
    · rw [(popS_lt (S := x :: S) (p := 265) (by show x < 265; omega)).1, (popS_lt (S := x :: S) (p := 265) (by show x < 265; omega)).2]
      exact ⟨rfl, rfl⟩
theorem pop_dep {p : Int} (hp : 41 ≤ p) : ∀ {S : List Int}, dep (popS p S) = dep S := by
  intro S
  induction S with
  | nil => rfl
  | cons x S ih =>
    rw [popS_c]
    split
    · rw [ih]
      show dep S = dep S + (if x = 40 then 1 else 0)
      rw [if_neg (by omega)]; omega
    · rfl
theorem dep_0 : ∀ {S : List Int}, 0 ≤ dep S := by
  intro S
  induction S with
  | nil => exact Int.le_refl _
  | cons x S ih => unfold dep; split <;> omega
def MK (τ : St) (S : List Int) : Prop := τ 0 30 = S.length ∧ τ 0 28 = opn S ∧ stkA (τ 17) (S.map mkk)
def MG (C : Int → Int) (n : Int) (τ0 s : St) (S : List Int) (L : List Tk) (acc : Cd) : Prop := (RT C n s L ∧ MC s acc ∧ MK s S ∧ VS S) ∧ opn S ≤ 8 ∧ acc.length + S.length + L.length ≤ 401 ∧ Fm [15, 16, 17] [14, 15, 16, 17, 27, 28, 30] τ0 s ∧ LoC τ0 s
theorem MK.fm {τ τ' : St} {D : List Nat} {J : List Int} {S : List Int} (h : MK τ S) (f : Fm D J τ τ') (d : D.contains 17 = false ∧ J.contains 28 = false ∧ J.contains 30 = false) : MK τ' S := by
  have d1 : 17 ∉ D := by simpa using d.1
  have d2 : 28 ∉ J := by simpa using d.2.1
  have d3 : 30 ∉ J := by simpa using d.2.2
  unfold MK
  rw [f.1 17 (by decide) d1, f.2 28 d2, f.2 30 d3]
  exact h
theorem mkk_inj {x q : Int} (h : x = 40 ∨ x = 266 ∨ x = 265 ∨ x = 264) (hq : q = 266 ∨ q = 265 ∨ q = 264) : mkk x = mkk q ↔ x = q := by
  rcases h with rfl | rfl | rfl | rfl <;> rcases hq with rfl | rfl | rfl <;> decide
theorem MG.settle {C : Int → Int} {n : Int} {τ0 s : St} {S : List Int} {L : List Tk} {acc : Cd} {q : Int} (hq : q = 266 ∨ q = 265 ∨ q = 264) (h : MG C n τ0 s S L acc) : Ok (fX12_settles (mkk q) s) fun _ s' => MG C n τ0 s' (popQ q S) L (acc ++ popR q S) := by
  unfold fX12_settles
  rw [ko_bnd]
  refine cnt_ok (fun k _ s => ∃ T a, MG C n τ0 s T L a ∧ popQ q T = popQ q S ∧ a ++ popR q T = acc ++ popR q S ∧ k = T.length) S.length ⟨S, acc, h, rfl, rfl, rfl⟩ (by have := h.2.2.1; omega) ?_
  rintro k _ s ⟨T, a, h, eS, eE, rfl⟩
  have h' := h
  obtain ⟨⟨rt, mc, ⟨k1, k2, k3⟩, hv⟩, ho, hl, f, lo⟩ := h
  have l1 := rt.len
  rw [fld_eq]
  cases T with
  | nil =>
    rw [if_neg (by rw [k1]; decide)]
    refine ok_ret (show Ok _ _ from ok_ret ?_)
    rw [← eS, ← eE]
    show MG C n τ0 s [] L (a ++ [])
    rw [List.append_nil]; exact h'
  | cons x T =>
    have l26 := hv.len26 ho
    rw [List.length_cons] at k1 hl l26
    have kx : s 17 (s 0 30 - 1) = mkk x := by
      have a := k3.1
      rw [List.length_map] at a
      rw [show s 0 30 - 1 = (T.length : Int) by omega]; exact a
    rw [if_pos (by omega), fld_eq, w32_sm (by omega), lod_eq (by omega), kx]
    rw [popQ_c] at eS
    rw [popR_c] at eE
    have xr : x = 40 ∨ x = 266 ∨ x = 265 ∨ x = 264 := by have := hv.2; omega
    by_cases g : x = q
    · rw [if_pos (by rw [g]), fld_eq, put_eq, w32_sm (by omega)]
      rw [if_pos g] at eS eE
      have fu : Fm [] [30] s (up s 0 30 (s 0 30 - 1)) := Fm.rf.u0 (by decide)
      have eo : opn (x :: T) = opn T + if x = 40 ∨ x = 266 then 1 else 0 := rfl
      have o0 := opn_0 (S := T)
      obtain ⟨s2, e2, f2, l2, c2⟩ := m_emit (o := mkk q) (a := 0) (mc.fm fu (by decide)) (by omega)
      have em : mkk q = sgk x := by rw [g]; rcases hq with rfl | rfl | rfl <;> rfl
      rw [em] at c2
      rw [e2, bnd_some]
      have F2 : Fm [15, 16, 17] [14, 15, 16, 17, 27, 28, 30] τ0 s2 := (f.tr (fu.mono (by decide) (by decide))).tr (f2.mono (by decide) (by decide))
      have L2 : LoC τ0 s2 := (lo.tr (LoC.fm fu (by decide))).tr l2
      have r2 : RT C n s2 L := (rt.fm fu (by decide)).fm f2 (by decide)
      have z30 : s2 0 30 = T.length := by rw [f2.2 30 (by decide)]; show s 0 30 - 1 = _; omega
      have z28 : s2 0 28 = s 0 28 := by rw [f2.2 28 (by decide)]; rfl
      have z17 : s2 17 = s 17 := by rw [f2.1 17 (by decide) (by decide)]; rfl
      by_cases n9 : x = 266
      · rw [if_pos (by rw [← g, n9]; rfl), fld_eq, z28, put_eq, k2, eo, if_pos (Or.inr n9)]
        rw [eo, if_pos (Or.inr n9)] at ho
        rw [w32_sm (by omega)]
        have fv : Fm [] [28] s2 (up s2 0 28 (opn T + 1 - 1)) := Fm.rf.u0 (by decide)
        exact ok_ret ⟨T.length, by rw [List.length_cons]; omega, T, _, ⟨⟨r2.fm fv (by decide), c2.fm fv (by decide), ⟨z30, (show opn T + 1 - 1 = opn T by omega), (show stkA (s2 17) _ by rw [z17]; exact k3.2)⟩, hv.1⟩, by omega, by rw [List.length_append, List.length_singleton]; omega, F2.tr (fv.mono (by decide) (by decide)), L2.tr (LoC.fm fv (by decide))⟩, eS, by rw [List.append_assoc]; exact eE, rfl⟩
      · rw [if_neg (fun z => n9 ((mkk_inj xr (Or.inl rfl)).mp (by rw [g]; exact z)))]
        rw [eo, if_neg (by omega)] at ho k2
        exact ok_ret ⟨T.length, by rw [List.length_cons]; omega, T, _, ⟨⟨r2, c2, ⟨z30, by rw [z28, k2]; omega, by rw [z17]; exact k3.2⟩, hv.1⟩, by omega, by rw [List.length_append, List.length_singleton]; omega, F2, L2⟩, eS, by rw [List.append_assoc]; exact eE, rfl⟩
    · rw [if_neg (fun z => g ((mkk_inj xr hq).mp z))]
      rw [if_neg g] at eS eE
      refine ok_ret (show Ok _ _ from ok_ret ?_)
      rw [← eS, ← eE, List.append_nil]
      exact h'
theorem MG.wait {C : Int → Int} {n : Int} {s : St} {S : List Int} {q : Int} (h : MK s S) (hl : S.length < 40) : ∃ s', fX12_waits (mkk q) s = some (0, s') ∧ Fm [17] [30] s s' ∧ s' 0 30 = (S.length : Int) + 1 ∧ stkA (s' 17) ((q :: S).map mkk) := by
  obtain ⟨k1, k2, k3⟩ := h
  have e3 : up s 17 (s 0 30) (mkk q) 0 30 = s 0 30 := rfl
  unfold fX12_waits
  rw [fld_eq, sto_eq (by omega), fld_eq, e3, w32_sm (by omega), put_eq]
  refine ⟨_, rfl, (Fm.rf.up (by decide) (by decide)).u0 (by decide), by rw [← k1]; rfl, ?_, ?_⟩
  · show (if 17 = 17 ∧ ((S.map mkk).length : Int) = s 0 30 then mkk q else s 17 (S.map mkk).length) = mkk q
    rw [if_pos ⟨rfl, by rw [List.length_map, k1]⟩]
  · refine stk_cong k3 fun i i0 i1 => ?_
    rw [List.length_map] at i1
    show (if 17 = 17 ∧ i = s 0 30 then mkk q else s 17 i) = s 17 i
    rw [if_neg (by omega)]
