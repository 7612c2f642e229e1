/-! the law's code: the reference runs it -/
theorem m_lstep {τ : St} {W : Int → Int} {i e : Int} {K K' : List Nat} {S : List Int} {P : Unit → St → Prop} (hi : 0 ≤ i ∧ i < 400 ∧ i < e) (he : e ≤ 400) (hs : stp (τ 15 i) (τ 16 i) K = some K') (hk : kok K S) (hm : stk (τ 22) S) (hl : S.length ≤ 40) (hW : ∀ a, 0 ≤ a → a ≤ 9 → τ 21 a = W a) : Ok (if i < w32 (w32 (400 * 0) + e) then (
lod τ 15 1200 i fun v6 =>
bnx (
if v6 = 0 then (
some (.inl ((S.length : Int), i), τ))
else
lod τ 15 1200 i fun v8 =>
if v8 = 1 then (
some (.inl ((S.length : Int), i), τ))
else
lod τ 15 1200 i fun v10 =>
if v10 = 9 then (
lod τ 22 420 (w32 ((S.length : Int) - 1)) fun v24 =>
sto τ 22 420 (w32 ((S.length : Int) - 1)) (w32 (1 - v24)) fun s26 =>
some (.inr (.inl ((S.length : Int), w32 (i + 1))), s26))
else
lb (w32 ((S.length : Int) - 1)) fun v12 =>
lod τ 15 1200 i fun v14 =>
lod τ 22 420 (w32 (v12 - 1)) fun v16 =>
lod τ 22 420 v12 fun v18 =>
bnd (fX12_twoOf v14 v16 v18 τ) fun r20 s21 =>
sto s21 22 420 (w32 (v12 - 1)) r20 fun s23 =>
some (.inr (.inl (v12, w32 (i + 1))), s23)) fun (y27 : Int × Int) s28 =>
lod s28 15 1200 y27.2 fun v30 =>
if v30 = 0 then (
lod s28 16 1200 y27.2 fun v39 =>
sto s28 22 420 y27.1 v39 fun s41 =>
lb (w32 (y27.1 + 1)) fun v42 =>
some (.inl (v42, w32 (y27.2 + 1)), s41))
else
lod s28 16 1200 y27.2 fun v32 =>
lod s28 21 10 v32 fun v34 =>
sto s28 22 420 y27.1 v34 fun s36 =>
lb (w32 (y27.1 + 1)) fun v37 =>
some (.inl (v37, w32 (y27.2 + 1)), s36))
else
(some (.inr (), τ) : Rs ((Int × Int) ⊕ Unit))) (Jx (fun x τ' => x = (((stv W (τ 15 i) (τ 16 i) S).length : Int), i + 1) ∧ Fm [22] [] τ τ' ∧ stk (τ' 22) (stv W (τ 15 i) (τ 16 i) S)) P) := by
  have len := kok_len hk
  have wi : w32 (i + 1) = i + 1 := w32_sm (by omega)
  have we : w32 (w32 (400 * 0) + e) = e := by rw [w32_l, w32_sm (by omega)]; omega
  have li : (0 : Int) ≤ i ∧ i < (1200 : Nat) := by omega
  rw [we, ko_t hi.2.2, lod_eq li, wi]
  clear we
  have upv : ∀ (v : Int) (T : List Int), stk (τ 22) T → stk (up τ 22 (T.length : Int) v 22) (v :: T) := by
    intro v T hT
    refine ⟨by rw [up_at, if_pos rfl], ?_⟩
    have := stk_up (v := v) (p := (T.length : Int)) (Int.le_refl _) hT
    have e : (fun i => if i = (T.length : Int) then v else τ 22 i) = up τ 22 (T.length : Int) v 22 := by
      funext j
      rw [up_at]
    rw [← e]
    exact this
  have fu : ∀ (p v : Int), Fm [22] [] τ (up τ 22 p v) := fun p v => Fm.rf.up (by decide) (by decide)
  rcases stp_inv hs with ⟨e, h1, rfl⟩ | ⟨e, h1, rfl⟩ | ⟨e, K1, rfl, rfl⟩ | ⟨x, y, K2, rfl, h1⟩
  · rw [e, if_pos rfl, bnx_inl]
    dsimp only
    rw [lod_eq li, e, if_pos rfl, lod_eq li, sto_eq (by omega), lb_eq, ko_some, ko_jl, wi, w32_nat (by omega)]
    exact ⟨rfl, fu _ _, upv _ S hm⟩
  · rw [e, if_neg (show ¬ ((1 : Int) = 0) by decide), lod_eq li, e, if_pos rfl, bnx_inl]
    dsimp only
    rw [lod_eq li, e, if_neg (show ¬ ((1 : Int) = 0) by decide), lod_eq li, lod_eq (by omega), sto_eq (by omega), lb_eq, ko_some, ko_jl, wi, w32_nat (by omega), hW _ h1.1 h1.2.1]
    exact ⟨rfl, fu _ _, upv _ S hm⟩
  · obtain ⟨y, S1, rfl, ⟨q1, q2⟩, q3⟩ := kok_one hk
    have q1 := q1 rfl
    rw [List.length_cons] at len hl
    have wl : w32 (((S1.length + 1 : Nat) : Int) - 1) = (S1.length : Int) := by rw [w32_sm (by omega)]; omega
    have wy : w32 (1 - y) = 1 - y := w32_sm (by omega)
    rw [e, if_neg (show ¬ ((9 : Int) = 0) by decide), lod_eq li, e, if_neg (show ¬ ((9 : Int) = 1) by decide), lod_eq li, e, if_pos rfl, List.length_cons, wl, lod_eq (by omega), hm.1, wy, sto_eq (by omega), bnx_inr, ko_some, ko_jl, stv_not]
    exact ⟨rfl, fu _ _, upv _ S1 hm.2⟩
  · obtain ⟨y', x', S2, rfl, q1, q2, q3⟩ := kok_two hk
    rw [List.length_cons, List.length_cons] at len hl
    have j := twoOf_eq (τ := τ) (o := τ 15 i) (x := x') (y := y') (by omega) (fun h => q1.2 (by omega)) (fun h => ⟨q2.1 (by omega), q1.1 (by omega)⟩)
    rw [stv_two (by omega) (by omega)]
    have wl : w32 (((S2.length + 1 + 1 : Nat) : Int) - 1) = ((S2.length + 1 : Nat) : Int) := by rw [w32_sm (by omega)]; omega
    have wm : w32 (((S2.length + 1 : Nat) : Int) - 1) = (S2.length : Int) := by rw [w32_sm (by omega)]; omega
    rw [if_neg (show ¬ τ 15 i = 0 by omega), lod_eq li, if_neg (show ¬ τ 15 i = 1 by omega), lod_eq li, if_neg (show ¬ τ 15 i = 9 by omega), lb_eq, lod_eq li, List.length_cons, List.length_cons, wl, wm, lod_eq (by omega), lod_eq (by omega), hm.2.1, show τ 22 ((S2.length + 1 : Nat) : Int) = y' from hm.1, j, bnd_some, sto_eq (by omega), bnx_inr, ko_some, ko_jl]
    exact ⟨rfl, fu _ _, upv _ S2 hm.2.2⟩
theorem m_runs {τ : St} {W : Int → Int} {i0 e0 : Int} {n k : Nat} (hn : e0 = i0 + n) (h0 : 0 ≤ i0) (h1 : e0 ≤ 400) (hk : chk (τ 15) (τ 16) n i0 [] = some [k]) (hW : ∀ a, 0 ≤ a → a ≤ 9 → τ 21 a = W a) : Ok (fX12_runs 0 i0 e0 τ) fun v τ' => Fm [22] [] τ τ' ∧ vls W (τ 15) (τ 16) i0 n = [v] := by
  unfold fX12_runs
  have we : w32 (w32 (400 * 0) + i0) = i0 := by rw [w32_l, w32_sm (by omega)]; omega
  rw [ko_lb, we, ko_bnd]
  refine for_ok n (fun j x τ' => x = (((vls W (τ 15) (τ 16) i0 j).length : Int), i0 + (j : Int)) ∧ Fm [22] [] τ τ' ∧ stk (τ' 22) (vls W (τ 15) (τ 16) i0 j)) (by omega) ⟨by rw [show ((0 : Nat) : Int) = 0 from rfl, Int.add_zero]; rfl, Fm.rf, trivial⟩ ?_ ?_
  · rintro j x s hj ⟨rfl, fr, hm⟩
    have s15 : s 15 = τ 15 := fr.1 15 (by decide) (by decide)
    have s16 : s 16 = τ 16 := fr.1 16 (by decide) (by decide)
    have s21 : s 21 = τ 21 := fr.1 21 (by decide) (by decide)
    obtain ⟨K, eK⟩ := chk_some hk (j := j) (by omega)
    obtain ⟨K', eK'⟩ := chk_some hk (j := j + 1) (by omega)
    rw [chk_succ, eK] at eK'
    have kk := kok_vls (W := W) eK
    have kl := chk_len eK
    rw [kok_len kk] at kl
    have st := m_lstep (τ := s) (W := W) (i := i0 + (j : Int)) (e := e0) (P := fun x σ' => Ok (lod σ' 22 420 0 fun v47 => some (v47, σ')) fun v τ' => Fm [22] [] τ τ' ∧ vls W (τ 15) (τ 16) i0 n = [v]) (by omega) h1 (by rw [s15, s16]; exact eK') kk hm kl (by rw [s21]; exact hW)
    refine ok_mono st ?_
    rintro (x | x) s' hx
    · obtain ⟨rfl, f2, m2⟩ := hx
      rw [s15, s16] at m2 ⊢
      exact ⟨by rw [vls, show i0 + (j : Int) + 1 = i0 + ((j + 1 : Nat) : Int) by omega], fr.tr f2, m2⟩
    · exact hx
  · rintro x s ⟨rfl, fr, hm⟩
    obtain ⟨v, ev, _⟩ := one_of (W := W) hk
    have we2 : w32 (w32 (400 * 0) + e0) = i0 + n := by rw [w32_l, w32_sm (by omega)]; omega
    rw [ev] at hm ⊢
    dsimp only
    rw [we2, ko_f (Int.lt_irrefl _), ko_some, ko_jr, ko_lod]
    refine ⟨by decide, ?_⟩
    rw [ko_some]
    exact ⟨fr, by rw [show s 22 0 = v from hm.1]⟩
