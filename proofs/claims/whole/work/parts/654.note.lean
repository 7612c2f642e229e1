/-! TEXT: the class notes a token down -/
theorem note_ok {C : Int → Int} {n a b : Int} {σ : St} (h : CX C n σ) (c : CC C n) (ha : 0 ≤ a ∧ a < n) (hb : Ten C a b) (hq : 0 ≤ σ 145 4 ∧ σ 145 4 < 400) : Ok (fX8_note a b σ) fun _ σ' => NT C a b σ σ' := by
  have hn := c.1.2
  have bb := hb.bd c ha.2
  unfold fX8_note
  rw [fld_eq, if_pos hq.2, at_eq h c ha.1, bnd_some]
  generalize eq : σ 145 4 = q at *
  have key : ∀ s14, s14 = up (up (up σ 146 q (C a)) 147 q 0) 148 q a → Ok (bnd (fX8_isLetter (C a) s14) fun r15 s16 => bnd (if r15 = 0 then some ((), s16) else fld s16 145 4 fun v18 => bnd (fX8_wordOf a b s16) fun r20 s21 => sto s21 146 401 v18 r20 fun s23 => some ((), s23)) fun (y24 : Unit) s25 => bnd (fX8_isDigit (C a) s25) fun r27 s28 => if r27 = 0 then fld s28 145 4 fun v30 => put s28 145 4 (w32 (v30 + 1)) fun s32 => some ((0 : Int), s32) else bnd (if 4 < w32 (b - a) then some (0, s28) else some (1, s28)) fun (y33 : Int) s34 => fld s34 145 4 fun v36 => bnd (if y33 = 0 then some (258, s34) else some (257, s34)) fun (y38 : Int) s39 => sto s39 146 401 v36 y38 fun s41 => bnd (itr FUEL (fun (x42 : Int) s43 => if y33 = 0 then some (.inr (), s43) else if x42 < b then fld s43 145 4 fun v45 => fld s43 145 4 fun v47 => lod s43 147 401 v47 fun v49 => bnd (fX7_at x42 s43) fun r51 s52 => sto s52 147 401 v45 (w32 (w32 (w32 (10 * v49) + r51) - 48)) fun s54 => some (.inl (w32 (x42 + 1)), s54) else some (.inr (), s43)) a s41) fun (y55 : Unit) s56 => fld s56 145 4 fun v58 => put s56 145 4 (w32 (v58 + 1)) fun s60 => some ((0 : Int), s60)) fun _ σ' => NT C a b σ σ' := by
    intro S eS
    have S4 : S 145 4 = q := by rw [eS]; exact eq
    have S5 : S 145 5 = σ 145 5 := by rw [eS]; rfl
    have fS : Fr [145, 146, 147, 148] σ S := by rw [eS]; exact (by repeat (first | exact Fr.rf | exact fx | refine Fr.up ?_ (by decide)))
    have S6 : ∀ j, S 146 j = if j = q then C a else σ 146 j := fun j => by rw [eS]; simp only [up_g, true_and, and_true, false_and, and_false, Nat.reduceEqDiff, if_false, if_true]
    have S7 : ∀ j, S 147 j = if j = q then 0 else σ 147 j := fun j => by rw [eS]; simp only [up_g, true_and, and_true, false_and, and_false, Nat.reduceEqDiff, if_false, if_true]
    have S8 : ∀ j, S 148 j = if j = q then a else σ 148 j := fun j => by rw [eS]; simp only [up_g, true_and, and_true, false_and, and_false, Nat.reduceEqDiff, if_false, if_true]
    have hS := h.fr fS (by decide)
    clear eS
    rw [xLt_eq, bnd_some]
    by_cases l : isLt (C a)
    · have nd : ¬ isDg (C a) := fun d => dg_lt d l
      rw [if_pos l, if_neg (by decide), fld_eq, S4, ko_bnd, ko_bnd]
      refine ok_mono (wordOf_ok hS c ⟨ha.1, by omega, bb.2⟩) ?_
      rintro k s ⟨rfl, hk⟩
      rw [sto_eq (by omega)]
      refine ok_ret ?_
      rw [xDg_eq, bnd_some, if_neg nd, if_pos rfl, fld_eq, put_eq]
      have e4 : up S 146 q k 145 4 = q := S4
      rw [e4, w32_sm (by omega)]
      refine ok_ret ⟨(fS.up (by decide)).up (by decide), ?_, ?_, fun j hj => ?_, fun t ht => ?_⟩
      · rw [eq]; rfl
      · exact S5
      · rw [eq] at hj
        refine ⟨?_, ?_, ?_⟩
        · show (if 146 = 146 ∧ j = q then k else S 146 j) = _
          rw [if_neg (by omega), S6, if_neg hj]
        · exact (S7 j).trans (if_neg hj)
        · exact (S8 j).trans (if_neg hj)
      · rw [eq]
        obtain ⟨t1, t2⟩ := ht
        rw [if_neg nd, if_pos l] at t2
        refine ⟨?_, ?_, fun e => ?_⟩
        · show (if 146 = 146 ∧ q = q then k else S 146 q) = _
          rw [if_pos ⟨rfl, rfl⟩]
          exact hk.uniq t2
        · exact ((S8 q).trans (if_pos rfl)).trans t1.symm
        · exfalso
          rcases t2 with ⟨w, w0, w1, w2⟩ | ⟨w2, w3⟩
          · rw [e] at w2; unfold cw at w2; omega
          · omega
    · rw [if_neg l, if_pos rfl, bnd_some, xDg_eq, bnd_some]
      by_cases d : isDg (C a)
      · rw [if_pos d, if_neg (by decide), w32_sm (by omega)]
        have dr : ∀ k, a ≤ k → k < b → isDg (C k) := fun k k0 k1 => by
          unfold Ten at hb
          rw [if_pos d] at hb
          by_cases e : k = a
          · rw [e]; exact d
          · exact hb.2.1 k (by omega) k1
        by_cases g : 4 < b - a
        · rw [if_pos g, bnd_some, fld_eq, S4, if_pos rfl, bnd_some, sto_eq (by omega), ko_bnd]
          refine for_ok 0 (fun _ _ s => s = up S 146 q 258) (by decide) rfl (fun _ _ _ h => by omega) ?_
          rintro x s rfl
          rw [if_pos rfl]
          refine ok_ret (show Ok _ _ from ?_)
          rw [fld_eq, put_eq]
          have e4 : up S 146 q 258 145 4 = q := S4
          rw [e4, w32_sm (by omega)]
          refine ok_ret ⟨(fS.up (by decide)).up (by decide), ?_, ?_, fun j hj => ?_, fun t ht => ?_⟩
          · rw [eq]; rfl
          · exact S5
          · rw [eq] at hj
            refine ⟨?_, ?_, ?_⟩
            · show (if 146 = 146 ∧ j = q then 258 else S 146 j) = _
              rw [if_neg (by omega), S6, if_neg hj]
            · exact (S7 j).trans (if_neg hj)
            · exact (S8 j).trans (if_neg hj)
          · rw [eq]
            obtain ⟨t1, t2⟩ := ht
            rw [if_pos d, if_neg (by omega)] at t2
            refine ⟨?_, ?_, fun e => ?_⟩
            · show (if 146 = 146 ∧ q = q then 258 else S 146 q) = _
              rw [if_pos ⟨rfl, rfl⟩, t2]
            · exact ((S8 q).trans (if_pos rfl)).trans t1.symm
            · omega
        · rw [if_neg g, bnd_some, fld_eq, S4, if_neg (by decide), bnd_some, sto_eq (by omega), ko_bnd]
          refine for_ok (b - a).toNat (fun i x s => x = a + i ∧ Fr [145, 146, 147, 148] σ s ∧ s 145 4 = q ∧ s 145 5 = σ 145 5 ∧ s 147 q = nv C a i ∧ s 146 q = 257 ∧ s 148 q = a ∧ ∀ j, j ≠ q → s 146 j = σ 146 j ∧ s 147 j = σ 147 j ∧ s 148 j = σ 148 j) (by omega) ⟨by omega, fS.up (by decide), S4, S5, (S7 q).trans (if_pos rfl), if_pos ⟨rfl, rfl⟩, (S8 q).trans (if_pos rfl), fun j hj => ⟨(if_neg (by omega)).trans ((S6 j).trans (if_neg hj)), (S7 j).trans (if_neg hj), (S8 j).trans (if_neg hj)⟩⟩ ?_ ?_
          · rintro i x s hi ⟨rfl, f, i4, i5, i7, i6, i8, io⟩
            have nb := nv_le (C := C) (i := a) (m := i) (by omega) fun k k0 k1 => dr k k0 (by omega)
            have cb := dr (a + i) (by omega) (by omega)
            unfold isDg at cb
            rw [if_neg (by decide), if_pos (by omega), fld_eq, fld_eq, i4, lod_eq (by omega), at_eq (h.fr f (by decide)) c (by omega), bnd_some, sto_eq (by omega), i7, w32_sm (x := 10 * nv C a i) (by omega), w32_sm (x := 10 * nv C a i + C (a + i)) (by omega), w32_sm (x := 10 * nv C a i + C (a + i) - 48) (by omega), w32_sm (by omega)]
            refine ok_ret ⟨by omega, f.up (by decide), i4, i5, if_pos ⟨rfl, rfl⟩, i6, i8, fun j hj => ⟨(io j hj).1, (if_neg (by omega)).trans (io j hj).2.1, (io j hj).2.2⟩⟩
          · rintro x s ⟨rfl, f, i4, i5, i7, i6, i8, io⟩
            rw [if_neg (by decide), if_neg (by omega)]
            refine ok_ret (show Ok _ _ from ?_)
            rw [fld_eq, put_eq, i4, w32_sm (by omega)]
            refine ok_ret ⟨f.up (by decide), ?_, i5, fun j hj => ?_, fun t ht => ?_⟩
            · rw [eq]; rfl
            · rw [eq] at hj; exact io j hj
            · rw [eq]
              obtain ⟨t1, t2⟩ := ht
              rw [if_pos d, if_pos (by omega)] at t2
              exact ⟨i6.trans t2.1.symm, i8.trans t1.symm, fun _ => i7.trans t2.2.symm⟩
      · rw [if_neg d, if_pos rfl, fld_eq, put_eq, S4, w32_sm (by omega)]
        refine ok_ret ⟨fS.up (by decide), ?_, S5, fun j hj => ?_, fun t ht => ?_⟩
        · rw [eq]; rfl
        · rw [eq] at hj
          exact ⟨(S6 j).trans (if_neg hj), (S7 j).trans (if_neg hj), (S8 j).trans (if_neg hj)⟩
        · rw [eq]
          obtain ⟨t1, t2⟩ := ht
          rw [if_neg d, if_neg l] at t2
          refine ⟨((S6 q).trans (if_pos rfl)).trans t2.symm, ((S8 q).trans (if_pos rfl)).trans t1.symm, fun e => ?_⟩
          have := c.2.1 a ha.1 ha.2
          omega
  have e2 : up σ 146 q (C a) 145 4 = q := eq
  have e3 : up (up σ 146 q (C a)) 147 q 0 145 4 = q := eq
  rw [fld_eq, eq, sto_eq (by omega), fld_eq, e2, sto_eq (by omega), fld_eq, e3, sto_eq (by omega)]
  exact key _ rfl
