/-! the law's code: the class runs it -/
theorem enc_two {o a : Int} (ho : (2 ≤ o ∧ o ≤ 8) ∨ o = 10 ∨ o = 11) : enc o a = enc o 0 ∧ -265 ≤ enc o 0 ∧ enc o 0 ≤ -42 := by
  rcases (show o = 2 ∨ o = 3 ∨ o = 4 ∨ o = 5 ∨ o = 6 ∨ o = 7 ∨ o = 8 ∨ o = 10 ∨ o = 11 by omega) with rfl | rfl | rfl | rfl | rfl | rfl | rfl | rfl | rfl <;> exact ⟨rfl, by decide, by decide⟩
theorem c_lstep {σ : St} {W : Int → Int} {o a i e : Int} {K K' : List Nat} {S : List Int} {P : Int ⊕ Int → St → Prop} (hi : 0 ≤ i ∧ i < 400 ∧ i < e) (g : fX6_get 20 21 400 i 0 σ = some (enc o a, σ)) (hs : stp o a K = some K') (hk : kok K S) (hm : stk (σ 151) S) (hl : S.length ≤ 40) (hW : ∀ a, 0 ≤ a → a ≤ 9 → σ 150 a = W a) : Ok (if i < e then (
bnd (fX6_get 20 21 400 i 0 σ) fun r4 s5 =>
lb (w32 (w32 (-r4) - 270)) fun v7 =>
bnx (
if r4 < 0 then (
bnd (fX11_within v7 0 9 s5) fun r9 s10 =>
if r9 = 0 then (
if r4 = (-266) then (
if (S.length : Int) < 1 then (
some (.inr (.inr (.inr 0)), s10))
else
lod s10 151 40 (w32 ((S.length : Int) - 1)) fun v20 =>
if v20 = 0 then (
sto s10 151 40 (w32 ((S.length : Int) - 1)) 1 fun s23 =>
some (.inr (.inl ((S.length : Int), w32 (i + 1))), s23))
else
sto s10 151 40 (w32 ((S.length : Int) - 1)) 0 fun s22 =>
some (.inr (.inl ((S.length : Int), w32 (i + 1))), s22))
else
if (S.length : Int) < 2 then (
some (.inr (.inr (.inr 0)), s10))
else
lod s10 151 40 (w32 (w32 ((S.length : Int) + (-1)) - 1)) fun v12 =>
lod s10 151 40 (w32 ((S.length : Int) + (-1))) fun v14 =>
bnd (fX3_joined (w32 (-r4)) v12 v14 s10) fun r16 s17 =>
sto s17 151 40 (w32 (w32 ((S.length : Int) + (-1)) - 1)) r16 fun s19 =>
some (.inr (.inl (w32 ((S.length : Int) + (-1)), w32 (i + 1))), s19))
else
some (.inl ((S.length : Int), i), s10))
else
some (.inl ((S.length : Int), i), s5)) fun (y24 : Int × Int) s25 =>
if y24.1 < 40 then (
if r4 < 0 then (
lod s25 150 10 v7 fun v27 =>
sto s25 151 40 y24.1 v27 fun s29 =>
some (.inl (w32 (y24.1 + 1), w32 (y24.2 + 1)), s29))
else
sto s25 151 40 y24.1 r4 fun s30 =>
some (.inl (w32 (y24.1 + 1), w32 (y24.2 + 1)), s30))
else
some (.inr (.inr 0), s25))
else
(some (.inr (.inl (S.length : Int)), σ) : Rs ((Int × Int) ⊕ (Int ⊕ Int)))) (Jx (fun x σ' => x = (((stv W o a S).length : Int), i + 1) ∧ Fr [151] σ σ' ∧ stk (σ' 151) (stv W o a S)) P) := by
  have len := kok_len hk
  have wi : w32 (i + 1) = i + 1 := w32_sm (by omega)
  rw [ko_t hi.2.2, ko_bnd, g, ko_some, ko_lb, wi]
  clear g
  have upv : ∀ (v : Int) (T : List Int), stk (σ 151) T → stk (up σ 151 (T.length : Int) v 151) (v :: T) := by
    intro v T hT
    refine ⟨by rw [up_at, if_pos rfl], ?_⟩
    have := stk_up (v := v) (p := (T.length : Int)) (Int.le_refl _) hT
    have e : (fun i => if i = (T.length : Int) then v else σ 151 i) = up σ 151 (T.length : Int) v 151 := by
      funext j
      rw [up_at]
    rw [← e]
    exact this
  rcases stp_inv hs with ⟨rfl, h1, rfl⟩ | ⟨rfl, h1, rfl⟩ | ⟨rfl, K1, rfl, rfl⟩ | ⟨x, y, K2, rfl, h1⟩
  · have e : enc 0 a = a := rfl
    rw [e, if_neg (show ¬ a < 0 by omega), bnx_inl]
    dsimp only
    rw [if_pos (show (S.length : Int) < 40 by omega), if_neg (show ¬ a < 0 by omega), ko_sto, ko_some, ko_jl, wi, w32_nat (by omega)]
    exact ⟨by omega, rfl, Fr.rf.up (by decide), upv a S hm⟩
  · have e : enc 1 a = -(270 + a) := rfl
    have w1 : w32 (w32 (-(-(270 + a))) - 270) = a := by
      rw [w32_ls, w32_sm (by omega)]
      omega
    rw [e, w1, if_pos (show -(270 + a) < 0 by omega), within_eq, if_pos (show 0 ≤ a ∧ a ≤ 9 by omega), bnd_some, if_neg (show ¬ ((1 : Int) = 0) by decide), bnx_inl]
    dsimp only
    rw [if_pos (show (S.length : Int) < 40 by omega), if_pos (show -(270 + a) < 0 by omega), ko_lod, ko_sto, ko_some, ko_jl, wi, w32_nat (by omega), hW a h1.1 h1.2.1]
    exact ⟨by omega, by omega, rfl, Fr.rf.up (by decide), upv (W a) S hm⟩
  · have e : enc 9 a = -266 := rfl
    obtain ⟨y, S1, rfl, ⟨q1, q2⟩, q3⟩ := kok_one hk
    have q1 := q1 rfl
    rw [List.length_cons] at len hl
    have wl : w32 (((S1.length + 1 : Nat) : Int) - 1) = (S1.length : Int) := by rw [w32_sm (by omega)]; omega
    rw [e, show w32 (w32 (-(-266)) - 270) = -4 by decide, if_pos (show (-266 : Int) < 0 by decide), within_eq, if_neg (show ¬ ((0 : Int) ≤ -4 ∧ (-4 : Int) ≤ 9) by decide), bnd_some, if_pos rfl, if_pos rfl, List.length_cons, if_neg (show ¬ (((S1.length + 1 : Nat) : Int) < 1) by omega), wl, lod_eq (by omega), hm.1]
    rcases q1 with rfl | rfl
    · rw [if_pos rfl, sto_eq (by omega), bnx_inr, ko_some, ko_jl, stv_not]
      exact ⟨rfl, Fr.rf.up (by decide), upv _ S1 hm.2⟩
    · rw [if_neg (by decide), sto_eq (by omega), bnx_inr, ko_some, ko_jl, stv_not]
      exact ⟨rfl, Fr.rf.up (by decide), upv _ S1 hm.2⟩
  · obtain ⟨y', x', S2, rfl, q1, q2, q3⟩ := kok_two hk
    rw [List.length_cons, List.length_cons] at len hl
    have ho : (2 ≤ o ∧ o ≤ 8) ∨ o = 10 ∨ o = 11 := by omega
    have h5 : o = 5 → y' ≠ 0 := by
      intro h
      refine q1.2 ?_
      omega
    obtain ⟨e1, e2, e3⟩ := enc_two (a := a) ho
    have j := joined_eq (σ := σ) (x := x') (y := y') ho h5
    rw [e1, stv_two (by omega) (by omega)]
    generalize enc o 0 = r at *
    have w0 : w32 (-r) = -r := w32_sm (by omega)
    have w1 : w32 (-r - 270) = -r - 270 := w32_sm (by omega)
    have wl : w32 (((S2.length + 1 + 1 : Nat) : Int) + (-1)) = ((S2.length + 1 : Nat) : Int) := by rw [w32_sm (by omega)]; omega
    have wm : w32 (((S2.length + 1 : Nat) : Int) - 1) = (S2.length : Int) := by rw [w32_sm (by omega)]; omega
    rw [w0, w1, if_pos (show r < 0 by omega), within_eq, if_neg (show ¬ ((0 : Int) ≤ -r - 270 ∧ -r - 270 ≤ 9) by omega), bnd_some, if_pos rfl, if_neg (show ¬ r = -266 by omega), List.length_cons, List.length_cons, if_neg (show ¬ (((S2.length + 1 + 1 : Nat) : Int) < 2) by omega), wl, wm, lod_eq (by omega), lod_eq (by omega), hm.2.1, show σ 151 ((S2.length + 1 : Nat) : Int) = y' from hm.1, j, bnd_some, sto_eq (by omega), bnx_inr, ko_some, ko_jl]
    exact ⟨rfl, Fr.rf.up (by decide), upv _ S2 hm.2.2⟩
