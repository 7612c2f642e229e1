/-! the law's code: the class's value -/
theorem chk_len {op ar : Int → Int} {i : Int} : ∀ {j : Nat} {K : List Nat}, chk op ar j i [] = some K → K.length ≤ 40 := by
  intro j
  induction j with
  | zero => intro K h; cases h; exact Nat.zero_le 40
  | succ j ih =>
    intro K h
    rw [chk_succ] at h
    cases e : chk op ar j i [] with
    | none => rw [e] at h; cases h
    | some K0 =>
      rw [e] at h
      have := ih e
      rcases stp_inv h with ⟨_, h1, rfl⟩ | ⟨_, h1, rfl⟩ | ⟨_, K1, rfl, rfl⟩ | ⟨x, y, K2, rfl, h1⟩
      · rw [List.length_cons]; omega
      · rw [List.length_cons]; omega
      · exact this
      · rw [List.length_cons, List.length_cons] at this
        rcases h1 with ⟨_, rfl⟩ | ⟨_, _, rfl⟩ | ⟨_, rfl⟩ | ⟨_, _, _, rfl⟩ <;> (rw [List.length_cons]; omega)
theorem one_of {W op ar : Int → Int} {i : Int} {n k : Nat} (h : chk op ar n i [] = some [k]) : ∃ v, vls W op ar i n = [v] ∧ (k = 1 → v = 0 ∨ v = 1) := by
  have := kok_vls (W := W) h
  obtain ⟨y, S1, e, q1, q2⟩ := kok_one this
  match S1, q2 with
  | [], _ => exact ⟨y, e, q1.1⟩
theorem c_value {σ : St} {W op ar : Int → Int} {i0 : Int} {n k : Nat} (w0 : σ 20 0 = 1) (h0 : 0 ≤ i0) (h1 : i0 + n ≤ σ 20 2) (h2 : σ 20 2 ≤ 400) (hc : ∀ i, 0 ≤ i → i < σ 20 2 → σ 21 i = enc (op i) (ar i)) (hk : chk op ar n i0 [] = some [k]) (hW : ∀ a, 0 ≤ a → a ≤ 9 → σ 150 a = W a) : Ok (fX3_value i0 (i0 + n) σ) fun v σ' => Fr [151] σ σ' ∧ vls W op ar i0 n = [v] := by
  unfold fX3_value
  rw [ko_bnx]
  refine for_ok n (fun j x σ' => x = (((vls W op ar i0 j).length : Int), i0 + (j : Int)) ∧ Fr [151] σ σ' ∧ stk (σ' 151) (vls W op ar i0 j)) (by omega) ⟨by rw [show ((0 : Nat) : Int) = 0 from rfl, Int.add_zero]; rfl, Fr.rf, trivial⟩ ?_ ?_
  · rintro j x s hj ⟨rfl, fr, hm⟩
    have s20 : s 20 = σ 20 := fr 20 (by decide)
    have s21 : s 21 = σ 21 := fr 21 (by decide)
    have s150 : s 150 = σ 150 := fr 150 (by decide)
    obtain ⟨K, eK⟩ := chk_some hk (j := j) (by omega)
    obtain ⟨K', eK'⟩ := chk_some hk (j := j + 1) (by omega)
    rw [chk_succ, eK] at eK'
    have kk := kok_vls (W := W) eK
    have kl := chk_len eK
    rw [kok_len kk] at kl
    have g : fX6_get 20 21 400 (i0 + (j : Int)) 0 s = some (enc (op (i0 + j)) (ar (i0 + j)), s) := by
      rw [row_get (w := 1) (by rw [s20]; exact w0) (by decide) (by rw [s20]; omega) (by decide), s20, if_pos (by omega), s21, Int.mul_one, Int.add_zero, hc _ (by omega) (by omega)]
    have st := c_lstep (W := W) (e := i0 + n) (P := fun x σ' => Jx (fun x σ' => Ok (if 0 < x then lod σ' 151 40 (w32 (x - 1)) fun v34 => some (v34, σ') else some (0, σ')) fun v σ' => Fr [151] σ σ' ∧ vls W op ar i0 n = [v]) (fun v σ' => Fr [151] σ σ' ∧ vls W op ar i0 n = [v]) x σ') (by omega) g eK' kk hm kl (by rw [s150]; exact hW)
    refine ok_mono st ?_
    rintro (x | x) s' hx
    · obtain ⟨rfl, f2, m2⟩ := hx
      exact ⟨by rw [vls, show i0 + (j : Int) + 1 = i0 + ((j + 1 : Nat) : Int) by omega], fr.tr f2, m2⟩
    · exact hx
  · rintro x s ⟨rfl, fr, hm⟩
    obtain ⟨v, ev, _⟩ := one_of (W := W) hk
    rw [ev] at hm ⊢
    dsimp only
    rw [ko_f (Int.lt_irrefl _), ko_some, ko_jr, ko_jl, List.length_singleton, ko_t (by decide), ko_lod]
    refine ⟨by decide, ?_⟩
    rw [ko_some]
    exact ⟨fr, by rw [show s 151 (w32 (((1 : Nat) : Int) - 1)) = v from hm.1]⟩
