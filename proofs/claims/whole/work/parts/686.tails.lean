/-! TEXT: what comes behind the reading; both sides -/
def xTail (p1 : Int) (s5 : St) : Rs Int := bnd (fX9_linesOf p1 s5) fun r7 s8 => bnd (fX5_draft s8) fun _ s11 => bnd (fX6_copyFrom r7.toNat (r7.toNat + 1) 64 140 141 64 s11) fun _ s14 => bnd (if p1 = 0 then (bnd (fX5_draftCode s14) fun _ s17 => bnd (fX6_copyFrom 20 21 400 142 143 400 s17) fun _ s20 => some ((), s20)) else some ((), s14)) fun (_ : Unit) s23 => bnd (if p1 = 1 then (bnd (fX10_forget s23) fun _ s26 => some ((), s26)) else if p1 = 2 then (bnd (fX10_forget s23) fun _ s29 => some ((), s29)) else some ((), s23)) fun (_ : Unit) s32 => bnd (fX6_size r7.toNat (r7.toNat + 1) 64 s32) fun r34 s35 => some (r34, s35)
theorem x_tail {p1 : Int} {σ : St} {P Q : Int → St → Prop} (o : Ok (fX5_read p1 σ) Q) (hq : ∀ r s, Q r s → 0 ≤ s 1 1 ∧ ((r = 0 ∧ P (-1) (up s 1 1 0)) ∨ (r ≠ 0 ∧ Ok (xTail p1 (up s 1 1 0)) P))) : Ok (fX11_text p1 σ) P := by
  unfold fX11_text
  rw [ko_bnd]
  refine ok_mono o fun r s h => ?_
  obtain ⟨h0, h1⟩ := hq r s h
  unfold fX7_cut
  rw [if_neg (by decide), fld_eq, if_neg (by omega), put_eq, bnd_some]
  rcases h1 with ⟨e, hp⟩ | ⟨e, hp⟩
  · rw [if_pos e]
    exact ok_ret hp
  · rw [if_neg e]
    exact hp
def mTail (p1 : Int) (s8 : St) : Rs Int := bnd (bnd (fX12_readsText p1 s8) fun r10 s11 => if r10 = (-1) then (fld s11 0 31 fun v13 => put s11 0 33 v13 fun s15 => fld s15 0 32 fun v16 => put s15 0 34 v16 fun s18 => some (r10, s18)) else some (r10, s11)) fun (y19 : Int) s20 => put s20 0 13 0 fun s22 => if y19 = (-1) then (some ((-1), s22)) else if p1 = 0 then (bnd (fX12_takesLaw y19 s22) fun _ s27 => some (y19, s27)) else bnd (fX12_takesOther p1 y19 s22) fun _ s24 => some (y19, s24)
theorem m_tail {p1 : Int} {s8 : St} {P Q : Int → St → Prop} (o : Ok (fX12_readsText p1 s8) Q) (hq : ∀ r s, Q r s → (r = -1 ∧ P (-1) (up (up (up s 0 33 (s 0 31)) 0 34 (s 0 32)) 0 13 0)) ∨ (r ≠ -1 ∧ Ok (if p1 = 0 then (bnd (fX12_takesLaw r (up s 0 13 0)) fun _ s27 => some (r, s27)) else bnd (fX12_takesOther p1 r (up s 0 13 0)) fun _ s24 => some (r, s24)) P)) : Ok (mTail p1 s8) P := by
  unfold mTail
  rw [ko_bnd, ko_bnd]
  refine ok_mono o fun r s h => ?_
  rcases hq r s h with ⟨rfl, hp⟩ | ⟨e, hp⟩
  · rw [if_pos rfl, fld_eq, put_eq, fld_eq, put_eq]
    refine ok_ret (show Ok _ _ from ?_)
    rw [put_eq, if_pos rfl]
    exact ok_ret hp
  · rw [if_neg e]
    refine ok_ret (show Ok _ _ from ?_)
    rw [put_eq, if_neg e]
    exact hp
/-- the lines, as they lie in a row -/
def X4 (k : Nat) (s : St) (ls : List Ln) : Prop := ∀ (j : Nat) (l : Ln), ls[j]? = some l → s k ((j : Int) * 4) = l.1 ∧ s k ((j : Int) * 4 + 1) = l.2.1 ∧ s k ((j : Int) * 4 + 2) = l.2.2.1 ∧ s k ((j : Int) * 4 + 3) = l.2.2.2
theorem x_copy {ro : Nat} {s : St} {ls : List Ln} (hne : ro ≠ 140 ∧ ro + 1 ≠ 140 ∧ ro ≠ 141) (h0 : s ro 0 = 4) (xl : XL s ls) (l16 : ls.length ≤ 16) : ∃ s', fX6_copyFrom ro (ro + 1) 64 140 141 64 s = some (0, s') ∧ (∀ k, k ≠ ro → k ≠ ro + 1 → s' k = s k) ∧ s' ro 0 = 4 ∧ s' ro 2 = ls.length ∧ X4 (ro + 1) s' ls := by
  obtain ⟨x0, x2, x3⟩ := xl
  obtain ⟨s', e, f, c0, c1, c2⟩ := row_copy (ro := ro) (r2 := 140) (rn := 64) (σ := s) (w := 4) hne h0 x0 (by omega) (by decide)
  refine ⟨s', e, f, c0.trans x0, c1.trans x2, fun j l hj => ?_⟩
  have lt : j < ls.length := by
    by_cases g : j < ls.length
    · exact g
    · rw [List.getElem?_eq_none (by omega)] at hj; cases hj
  rw [x0, x2] at c2
  obtain ⟨a, b, c, d⟩ := x3 j l hj
  rw [c2 _ (by omega) (by omega), c2 _ (by omega) (by omega), c2 _ (by omega) (by omega), c2 _ (by omega) (by omega)]
  exact ⟨a, b, c, d⟩
theorem x_ok0 {s : St} {ls : List Ln} {a : Cd} (xc : XC s a) (xl : XL s ls) (h0 : s 18 0 = 4 ∧ s 20 0 = 1) (l16 : ls.length ≤ 16) (a4 : a.length ≤ 400) : Ok (xTail 0 s) fun r t => r = ls.length ∧ Fr [18, 19, 20, 21] s t ∧ (t 18 0 = 4 ∧ t 20 0 = 1 ∧ t 18 2 = ls.length ∧ t 20 2 = a.length) ∧ X4 19 t ls ∧ ∀ (j : Nat) (p : Int × Int), a[j]? = some p → t 21 j = enc p.1 p.2 := by
  unfold xTail fX9_linesOf fX5_draft fX5_draftCode fX6_size
  simp only [Int.reduceEq, if_true, if_false, bnd_some, Int.toNat_natCast, Nat.reduceAdd]
  obtain ⟨s1, e1, f1, b0, b2, b4⟩ := x_copy (ro := 18) (by decide) h0.1 xl l16
  obtain ⟨x0, x2, x3⟩ := xc
  obtain ⟨s2, e2, f2, c0, c1, c2⟩ := row_copy (ro := 20) (r2 := 142) (rn := 400) (σ := s1) (w := 1) (by decide) (by rw [f1 20 (by decide) (by decide)]; exact h0.2) (by rw [f1 142 (by decide) (by decide)]; exact x0) (by rw [f1 142 (by decide) (by decide)]; omega) (by decide)
  rw [show fX6_copyFrom 18 19 64 140 141 64 s = some (0, s1) from e1, bnd_some, show fX6_copyFrom 20 21 400 142 143 400 s1 = some (0, s2) from e2, bnd_some, bnd_some, fld_eq, bnd_some]
  have g18 : s2 18 = s1 18 := f2 18 (by decide) (by decide)
  have g19 : s2 19 = s1 19 := f2 19 (by decide) (by decide)
  rw [f1 142 (by decide) (by decide)] at c0 c1 c2
  rw [x0, x2] at c2
  have c2 : ∀ i, 0 ≤ i → i < (a.length : Int) * 1 → s2 21 i = s1 143 i := c2
  rw [f1 143 (by decide) (by decide)] at c2
  refine ok_ret ⟨by rw [g18]; exact b2, fun k hk => ?_, ⟨by rw [g18]; exact b0, c0.trans x0, by rw [g18]; exact b2, c1.trans x2⟩, ?_, fun j p hj => ?_⟩
  · simp only [List.mem_cons, List.not_mem_nil, or_false, not_or] at hk
    rw [f2 k hk.2.2.1 hk.2.2.2, f1 k hk.1 hk.2.1]
  · unfold X4
    rw [g19]
    exact b4
  · have lt : j < a.length := by
      by_cases g : j < a.length
      · exact g
      · rw [List.getElem?_eq_none (by omega)] at hj; cases hj
    rw [c2 j (by omega) (by omega)]
    exact x3 j p hj
theorem x_ok1 {s : St} {ls : List Ln} (xl : XL s ls) (h0 : s 22 0 = 4) (l16 : ls.length ≤ 16) : Ok (xTail 1 s) fun r t => r = ls.length ∧ Fr [22, 23, 52] s t ∧ (t 52 2 = 0 ∧ t 52 3 = s 52 3) ∧ t 22 0 = 4 ∧ t 22 2 = ls.length ∧ X4 23 t ls := by
  unfold xTail fX9_linesOf fX5_draft fX6_size fX10_forget
  simp only [Int.reduceEq, if_true, if_false, bnd_some, Int.toNat_natCast, Nat.reduceAdd]
  obtain ⟨s1, e1, f1, b0, b2, b4⟩ := x_copy (ro := 22) (by decide) h0 xl l16
  rw [show fX6_copyFrom 22 23 64 140 141 64 s = some (0, s1) from e1, bnd_some, put_eq, bnd_some, bnd_some, fld_eq, bnd_some]
  refine ok_ret ⟨b2, fun k hk => ?_, ⟨rfl, ?_⟩, b0, b2, b4⟩
  · simp only [List.mem_cons, List.not_mem_nil, or_false, not_or] at hk
    rw [up_ne hk.2.2, f1 k hk.1 hk.2.1]
  · show s1 52 3 = s 52 3
    rw [f1 52 (by decide) (by decide)]
theorem x_ok2 {s : St} {ls : List Ln} (xl : XL s ls) (h0 : s 24 0 = 4) (l16 : ls.length ≤ 16) : Ok (xTail 2 s) fun r t => r = ls.length ∧ Fr [24, 25, 52] s t ∧ (t 52 2 = 0 ∧ t 52 3 = s 52 3) ∧ t 24 0 = 4 ∧ t 24 2 = ls.length ∧ X4 25 t ls := by
  unfold xTail fX9_linesOf fX5_draft fX6_size fX10_forget
  simp only [Int.reduceEq, if_true, if_false, bnd_some, Int.toNat_natCast, Nat.reduceAdd]
  obtain ⟨s1, e1, f1, b0, b2, b4⟩ := x_copy (ro := 24) (by decide) h0 xl l16
  rw [show fX6_copyFrom 24 25 64 140 141 64 s = some (0, s1) from e1, bnd_some, put_eq, bnd_some, bnd_some, fld_eq, bnd_some]
  refine ok_ret ⟨b2, fun k hk => ?_, ⟨rfl, ?_⟩, b0, b2, b4⟩
  · simp only [List.mem_cons, List.not_mem_nil, or_false, not_or] at hk
    rw [up_ne hk.2.2, f1 k hk.1 hk.2.1]
  · show s1 52 3 = s 52 3
    rw [f1 52 (by decide) (by decide)]
theorem x_ok3 {s : St} {ls : List Ln} (xl : XL s ls) (h0 : s 26 0 = 4) (l16 : ls.length ≤ 16) : Ok (xTail 3 s) fun r t => r = ls.length ∧ Fr [26, 27] s t ∧ t 26 0 = 4 ∧ t 26 2 = ls.length ∧ X4 27 t ls := by
  unfold xTail fX9_linesOf fX5_draft fX6_size
  simp only [Int.reduceEq, if_true, if_false, bnd_some, Int.toNat_natCast, Nat.reduceAdd]
  obtain ⟨s1, e1, f1, b0, b2, b4⟩ := x_copy (ro := 26) (by decide) h0 xl l16
  rw [show fX6_copyFrom 26 27 64 140 141 64 s = some (0, s1) from e1, bnd_some, fld_eq, bnd_some]
  refine ok_ret ⟨b2, fun k hk => ?_, b0, b2, b4⟩
  simp only [List.mem_cons, List.not_mem_nil, or_false, not_or] at hk
  rw [f1 k hk.1 hk.2]
