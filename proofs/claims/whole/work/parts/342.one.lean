/-! one number of the houses changes on both sides -/
theorem RH.lampc {σ τ : St} (h : RH σ 3 τ) {p v : Int} (p0 : 0 ≤ p) (p1 : p < τ 0 6) (v0 : 0 ≤ v) (v1 : v ≤ 99) : RH (up σ 5 p v) 3 (up τ 1 (5 + p) v) := by
  obtain ⟨⟨a1, a2, a3, a4, a5, a6⟩, ⟨b1, b2, b3, b4, b5, b6⟩, hp, hq⟩ := h
  have bp : p < 12 := by omega
  refine ⟨⟨a1.trans (by first | rfl | (symm; simp only [up_g]; (repeat (rw [if_neg (by omega)])))), a2.trans (by first | rfl | (symm; simp only [up_g]; (repeat (rw [if_neg (by omega)])))), a3.trans (by first | rfl | (symm; simp only [up_g]; (repeat (rw [if_neg (by omega)])))), a4.trans (by first | rfl | (symm; simp only [up_g]; (repeat (rw [if_neg (by omega)])))), a5, a6⟩, ?_, fun i i0 i1 => ?_, fun i i0 i1 => ?_⟩
  · rw [show up τ 1 (5 + p) v 1 1 = τ 1 1 from (by first | rfl | (simp only [up_g]; (repeat (rw [if_neg (by omega)]))))]; exact ⟨b1, b2, b3, b4, b5, b6⟩
  · have i1 : i < τ 0 6 := i1
    obtain ⟨q1, q2, q3, q4, q5, q6, q7, q8, q9⟩ := hp i i0 i1
    exact ⟨q1.trans (by first | rfl | (symm; simp only [up_g]; (repeat (rw [if_neg (by omega)])))), (by
      simp only [up_g, Nat.reduceAdd]
      by_cases hi : i = p
      · subst hi; simp
      · rw [if_neg (by omega), if_neg (by omega)]; exact q2), q3.trans (by first | rfl | (symm; simp only [up_g]; (repeat (rw [if_neg (by omega)])))), (show σ 7 i = _ from q4.trans (by rw [show up τ 1 (5 + p) v 1 (29 + i) = τ 1 (29 + i) from (by first | rfl | (simp only [up_g]; (repeat (rw [if_neg (by omega)]))))])), (q5.trans (cP_cong fun k hk => (by first | rfl | (symm; simp only [up_g]; (repeat (rw [if_neg (by omega)])))))), (by
      simp only [up_g]
      by_cases hi : i = p
      · subst hi; simp <;> omega
      · rw [if_neg (by omega)]; exact q6), (by
      simp only [up_g]
      by_cases hi : i = p
      · subst hi; simp <;> omega
      · rw [if_neg (by omega)]; exact q7), (by simp only [up_g]; (repeat (rw [if_neg (by omega)])); omega), (by simp only [up_g]; (repeat (rw [if_neg (by omega)])); omega)⟩
  · have i1 : i < τ 0 7 := i1
    obtain ⟨q1, q2, q3, q4, q5, q6, q7, q8, q9, q10, q11, q12, q13, q14, q15, q16, q17⟩ := hq i i0 i1
    exact ⟨q1.trans (by first | rfl | (symm; simp only [up_g]; (repeat (rw [if_neg (by omega)])))), q2.trans (by first | rfl | (symm; simp only [up_g]; (repeat (rw [if_neg (by omega)])))), (show σ 11 i = _ from q3.trans (by rw [show up τ 1 (5 + p) v 1 (41 + i) = τ 1 (41 + i) from (by first | rfl | (simp only [up_g]; (repeat (rw [if_neg (by omega)]))))])), q4.trans (by first | rfl | (symm; simp only [up_g]; (repeat (rw [if_neg (by omega)])))), q5.trans (by first | rfl | (symm; simp only [up_g]; (repeat (rw [if_neg (by omega)])))), q6.trans (by first | rfl | (symm; simp only [up_g]; (repeat (rw [if_neg (by omega)])))), q7.trans (by first | rfl | (symm; simp only [up_g]; (repeat (rw [if_neg (by omega)])))), (show σ 16 i = _ from q8.trans (by rw [show up τ 1 (5 + p) v 1 (141 + i) = τ 1 (141 + i) from (by first | rfl | (simp only [up_g]; (repeat (rw [if_neg (by omega)]))))])), (by simp only [up_g]; (repeat (rw [if_neg (by omega)])); omega), (by simp only [up_g]; (repeat (rw [if_neg (by omega)])); omega), (by simp only [up_g]; (repeat (rw [if_neg (by omega)])); omega), (by simp only [up_g]; (repeat (rw [if_neg (by omega)])); omega), (by simp only [up_g]; (repeat (rw [if_neg (by omega)])); omega), (by simp only [up_g]; (repeat (rw [if_neg (by omega)])); omega), (by simp only [up_g]; (repeat (rw [if_neg (by omega)])); omega), (by simp only [up_g]; (repeat (rw [if_neg (by omega)])); omega), (by simp only [up_g]; (repeat (rw [if_neg (by omega)])); exact q17)⟩
theorem RH.cobw {σ τ : St} (h : RH σ 3 τ) {p v : Int} (p0 : 0 ≤ p) (p1 : p < τ 0 6) : RH (up σ 6 p v) 3 (up τ 1 (17 + p) v) := by
  obtain ⟨⟨a1, a2, a3, a4, a5, a6⟩, ⟨b1, b2, b3, b4, b5, b6⟩, hp, hq⟩ := h
  have bp : p < 12 := by omega
  refine ⟨⟨a1.trans (by first | rfl | (symm; simp only [up_g]; (repeat (rw [if_neg (by omega)])))), a2.trans (by first | rfl | (symm; simp only [up_g]; (repeat (rw [if_neg (by omega)])))), a3.trans (by first | rfl | (symm; simp only [up_g]; (repeat (rw [if_neg (by omega)])))), a4.trans (by first | rfl | (symm; simp only [up_g]; (repeat (rw [if_neg (by omega)])))), a5, a6⟩, ?_, fun i i0 i1 => ?_, fun i i0 i1 => ?_⟩
  · rw [show up τ 1 (17 + p) v 1 1 = τ 1 1 from (by first | rfl | (simp only [up_g]; (repeat (rw [if_neg (by omega)]))))]; exact ⟨b1, b2, b3, b4, b5, b6⟩
  · have i1 : i < τ 0 6 := i1
    obtain ⟨q1, q2, q3, q4, q5, q6, q7, q8, q9⟩ := hp i i0 i1
    exact ⟨q1.trans (by first | rfl | (symm; simp only [up_g]; (repeat (rw [if_neg (by omega)])))), q2.trans (by first | rfl | (symm; simp only [up_g]; (repeat (rw [if_neg (by omega)])))), (by
      simp only [up_g, Nat.reduceAdd]
      by_cases hi : i = p
      · subst hi; simp
      · rw [if_neg (by omega), if_neg (by omega)]; exact q3), (show σ 7 i = _ from q4.trans (by rw [show up τ 1 (17 + p) v 1 (29 + i) = τ 1 (29 + i) from (by first | rfl | (simp only [up_g]; (repeat (rw [if_neg (by omega)]))))])), (q5.trans (cP_cong fun k hk => (by first | rfl | (symm; simp only [up_g]; (repeat (rw [if_neg (by omega)])))))), (by simp only [up_g]; (repeat (rw [if_neg (by omega)])); omega), (by simp only [up_g]; (repeat (rw [if_neg (by omega)])); omega), (by simp only [up_g]; (repeat (rw [if_neg (by omega)])); omega), (by simp only [up_g]; (repeat (rw [if_neg (by omega)])); omega)⟩
  · have i1 : i < τ 0 7 := i1
    obtain ⟨q1, q2, q3, q4, q5, q6, q7, q8, q9, q10, q11, q12, q13, q14, q15, q16, q17⟩ := hq i i0 i1
    exact ⟨q1.trans (by first | rfl | (symm; simp only [up_g]; (repeat (rw [if_neg (by omega)])))), q2.trans (by first | rfl | (symm; simp only [up_g]; (repeat (rw [if_neg (by omega)])))), (show σ 11 i = _ from q3.trans (by rw [show up τ 1 (17 + p) v 1 (41 + i) = τ 1 (41 + i) from (by first | rfl | (simp only [up_g]; (repeat (rw [if_neg (by omega)]))))])), q4.trans (by first | rfl | (symm; simp only [up_g]; (repeat (rw [if_neg (by omega)])))), q5.trans (by first | rfl | (symm; simp only [up_g]; (repeat (rw [if_neg (by omega)])))), q6.trans (by first | rfl | (symm; simp only [up_g]; (repeat (rw [if_neg (by omega)])))), q7.trans (by first | rfl | (symm; simp only [up_g]; (repeat (rw [if_neg (by omega)])))), (show σ 16 i = _ from q8.trans (by rw [show up τ 1 (17 + p) v 1 (141 + i) = τ 1 (141 + i) from (by first | rfl | (simp only [up_g]; (repeat (rw [if_neg (by omega)]))))])), (by simp only [up_g]; (repeat (rw [if_neg (by omega)])); omega), (by simp only [up_g]; (repeat (rw [if_neg (by omega)])); omega), (by simp only [up_g]; (repeat (rw [if_neg (by omega)])); omega), (by simp only [up_g]; (repeat (rw [if_neg (by omega)])); omega), (by simp only [up_g]; (repeat (rw [if_neg (by omega)])); omega), (by simp only [up_g]; (repeat (rw [if_neg (by omega)])); omega), (by simp only [up_g]; (repeat (rw [if_neg (by omega)])); omega), (by simp only [up_g]; (repeat (rw [if_neg (by omega)])); omega), (by simp only [up_g]; (repeat (rw [if_neg (by omega)])); exact q17)⟩
theorem RH.mast {σ τ : St} (h : RH σ 3 τ) {p v : Int} (p0 : 0 ≤ p) (p1 : p < τ 0 6) (v0 : -1 ≤ v) (v1 : v < τ 0 7) : RH (up σ 7 p v) 3 (up τ 1 (29 + p) (v + 1)) := by
  obtain ⟨⟨a1, a2, a3, a4, a5, a6⟩, ⟨b1, b2, b3, b4, b5, b6⟩, hp, hq⟩ := h
  have bp : p < 12 := by omega
  refine ⟨⟨a1.trans (by first | rfl | (symm; simp only [up_g]; (repeat (rw [if_neg (by omega)])))), a2.trans (by first | rfl | (symm; simp only [up_g]; (repeat (rw [if_neg (by omega)])))), a3.trans (by first | rfl | (symm; simp only [up_g]; (repeat (rw [if_neg (by omega)])))), a4.trans (by first | rfl | (symm; simp only [up_g]; (repeat (rw [if_neg (by omega)])))), a5, a6⟩, ?_, fun i i0 i1 => ?_, fun i i0 i1 => ?_⟩
  · rw [show up τ 1 (29 + p) (v + 1) 1 1 = τ 1 1 from (by first | rfl | (simp only [up_g]; (repeat (rw [if_neg (by omega)]))))]; exact ⟨b1, b2, b3, b4, b5, b6⟩
  · have i1 : i < τ 0 6 := i1
    obtain ⟨q1, q2, q3, q4, q5, q6, q7, q8, q9⟩ := hp i i0 i1
    exact ⟨q1.trans (by first | rfl | (symm; simp only [up_g]; (repeat (rw [if_neg (by omega)])))), q2.trans (by first | rfl | (symm; simp only [up_g]; (repeat (rw [if_neg (by omega)])))), q3.trans (by first | rfl | (symm; simp only [up_g]; (repeat (rw [if_neg (by omega)])))), (by
      simp only [up_g, Nat.reduceAdd]
      by_cases hi : i = p
      · subst hi; simp <;> omega
      · rw [if_neg (by omega), if_neg (by omega)]; exact q4), (q5.trans (cP_cong fun k hk => (by first | rfl | (symm; simp only [up_g]; (repeat (rw [if_neg (by omega)])))))), (by simp only [up_g]; (repeat (rw [if_neg (by omega)])); omega), (by simp only [up_g]; (repeat (rw [if_neg (by omega)])); omega), (by
      simp only [up_g]
      by_cases hi : i = p
      · subst hi; simp <;> omega
      · rw [if_neg (by omega)]; exact q8), (by
      simp only [up_g]
      by_cases hi : i = p
      · subst hi; simp <;> omega
      · rw [if_neg (by omega)]; exact q9)⟩
  · have i1 : i < τ 0 7 := i1
    obtain ⟨q1, q2, q3, q4, q5, q6, q7, q8, q9, q10, q11, q12, q13, q14, q15, q16, q17⟩ := hq i i0 i1
    exact ⟨q1.trans (by first | rfl | (symm; simp only [up_g]; (repeat (rw [if_neg (by omega)])))), q2.trans (by first | rfl | (symm; simp only [up_g]; (repeat (rw [if_neg (by omega)])))), (show σ 11 i = _ from q3.trans (by rw [show up τ 1 (29 + p) (v + 1) 1 (41 + i) = τ 1 (41 + i) from (by first | rfl | (simp only [up_g]; (repeat (rw [if_neg (by omega)]))))])), q4.trans (by first | rfl | (symm; simp only [up_g]; (repeat (rw [if_neg (by omega)])))), q5.trans (by first | rfl | (symm; simp only [up_g]; (repeat (rw [if_neg (by omega)])))), q6.trans (by first | rfl | (symm; simp only [up_g]; (repeat (rw [if_neg (by omega)])))), q7.trans (by first | rfl | (symm; simp only [up_g]; (repeat (rw [if_neg (by omega)])))), (show σ 16 i = _ from q8.trans (by rw [show up τ 1 (29 + p) (v + 1) 1 (141 + i) = τ 1 (141 + i) from (by first | rfl | (simp only [up_g]; (repeat (rw [if_neg (by omega)]))))])), (by simp only [up_g]; (repeat (rw [if_neg (by omega)])); omega), (by simp only [up_g]; (repeat (rw [if_neg (by omega)])); omega), (by simp only [up_g]; (repeat (rw [if_neg (by omega)])); omega), (by simp only [up_g]; (repeat (rw [if_neg (by omega)])); omega), (by simp only [up_g]; (repeat (rw [if_neg (by omega)])); omega), (by simp only [up_g]; (repeat (rw [if_neg (by omega)])); omega), (by simp only [up_g]; (repeat (rw [if_neg (by omega)])); omega), (by simp only [up_g]; (repeat (rw [if_neg (by omega)])); omega), (by simp only [up_g]; (repeat (rw [if_neg (by omega)])); exact q17)⟩
theorem RH.tong {σ τ : St} (h : RH σ 3 τ) {p v : Int} (p0 : 0 ≤ p) (p1 : p < τ 0 7) (v0 : 0 ≤ v) (v1 : v ≤ 9) : RH (up σ 9 p v) 3 (up τ 5 p v) := by
  obtain ⟨⟨a1, a2, a3, a4, a5, a6⟩, ⟨b1, b2, b3, b4, b5, b6⟩, hp, hq⟩ := h
  have bp : p < 20 := by omega
  refine ⟨⟨a1.trans (by first | rfl | (symm; simp only [up_g]; (repeat (rw [if_neg (by omega)])))), a2.trans (by first | rfl | (symm; simp only [up_g]; (repeat (rw [if_neg (by omega)])))), a3.trans (by first | rfl | (symm; simp only [up_g]; (repeat (rw [if_neg (by omega)])))), a4.trans (by first | rfl | (symm; simp only [up_g]; (repeat (rw [if_neg (by omega)])))), a5, a6⟩, ?_, fun i i0 i1 => ?_, fun i i0 i1 => ?_⟩
  · rw [show up τ 5 p v 1 1 = τ 1 1 from (by first | rfl | (simp only [up_g]; (repeat (rw [if_neg (by omega)]))))]; exact ⟨b1, b2, b3, b4, b5, b6⟩
  · have i1 : i < τ 0 6 := i1
    obtain ⟨q1, q2, q3, q4, q5, q6, q7, q8, q9⟩ := hp i i0 i1
    exact ⟨q1.trans (by first | rfl | (symm; simp only [up_g]; (repeat (rw [if_neg (by omega)])))), q2.trans (by first | rfl | (symm; simp only [up_g]; (repeat (rw [if_neg (by omega)])))), q3.trans (by first | rfl | (symm; simp only [up_g]; (repeat (rw [if_neg (by omega)])))), (show σ 7 i = _ from q4.trans (by rw [show up τ 5 p v 1 (29 + i) = τ 1 (29 + i) from (by first | rfl | (simp only [up_g]; (repeat (rw [if_neg (by omega)]))))])), (q5.trans (cP_cong fun k hk => (by first | rfl | (symm; simp only [up_g]; (repeat (rw [if_neg (by omega)])))))), (by simp only [up_g]; (repeat (rw [if_neg (by omega)])); omega), (by simp only [up_g]; (repeat (rw [if_neg (by omega)])); omega), (by simp only [up_g]; (repeat (rw [if_neg (by omega)])); omega), (by simp only [up_g]; (repeat (rw [if_neg (by omega)])); omega)⟩
  · have i1 : i < τ 0 7 := i1
    obtain ⟨q1, q2, q3, q4, q5, q6, q7, q8, q9, q10, q11, q12, q13, q14, q15, q16, q17⟩ := hq i i0 i1
    exact ⟨(by
      simp only [up_g, Nat.reduceAdd]
      by_cases hi : i = p
      · subst hi; simp
      · rw [if_neg (by omega), if_neg (by omega)]; exact q1), q2.trans (by first | rfl | (symm; simp only [up_g]; (repeat (rw [if_neg (by omega)])))), (show σ 11 i = _ from q3.trans (by rw [show up τ 5 p v 1 (41 + i) = τ 1 (41 + i) from (by first | rfl | (simp only [up_g]; (repeat (rw [if_neg (by omega)]))))])), q4.trans (by first | rfl | (symm; simp only [up_g]; (repeat (rw [if_neg (by omega)])))), q5.trans (by first | rfl | (symm; simp only [up_g]; (repeat (rw [if_neg (by omega)])))), q6.trans (by first | rfl | (symm; simp only [up_g]; (repeat (rw [if_neg (by omega)])))), q7.trans (by first | rfl | (symm; simp only [up_g]; (repeat (rw [if_neg (by omega)])))), (show σ 16 i = _ from q8.trans (by rw [show up τ 5 p v 1 (141 + i) = τ 1 (141 + i) from (by first | rfl | (simp only [up_g]; (repeat (rw [if_neg (by omega)]))))])), (by simp only [up_g]; (repeat (rw [if_neg (by omega)])); omega), (by simp only [up_g]; (repeat (rw [if_neg (by omega)])); omega), (by simp only [up_g]; (repeat (rw [if_neg (by omega)])); omega), (by simp only [up_g]; (repeat (rw [if_neg (by omega)])); omega), (by
      simp only [up_g]
      by_cases hi : i = p
      · subst hi; simp <;> omega
      · rw [if_neg (by omega)]; exact q13), (by
      simp only [up_g]
      by_cases hi : i = p
      · subst hi; simp <;> omega
      · rw [if_neg (by omega)]; exact q14), (by simp only [up_g]; (repeat (rw [if_neg (by omega)])); omega), (by simp only [up_g]; (repeat (rw [if_neg (by omega)])); omega), (by simp only [up_g]; (repeat (rw [if_neg (by omega)])); exact q17)⟩
theorem RH.earc {σ τ : St} (h : RH σ 3 τ) {p v : Int} (p0 : 0 ≤ p) (p1 : p < τ 0 7) (v0 : 0 ≤ v) (v1 : v ≤ 9) : RH (up σ 10 p v) 3 (up τ 6 p v) := by
  obtain ⟨⟨a1, a2, a3, a4, a5, a6⟩, ⟨b1, b2, b3, b4, b5, b6⟩, hp, hq⟩ := h
  have bp : p < 20 := by omega
  refine ⟨⟨a1.trans (by first | rfl | (symm; simp only [up_g]; (repeat (rw [if_neg (by omega)])))), a2.trans (by first | rfl | (symm; simp only [up_g]; (repeat (rw [if_neg (by omega)])))), a3.trans (by first | rfl | (symm; simp only [up_g]; (repeat (rw [if_neg (by omega)])))), a4.trans (by first | rfl | (symm; simp only [up_g]; (repeat (rw [if_neg (by omega)])))), a5, a6⟩, ?_, fun i i0 i1 => ?_, fun i i0 i1 => ?_⟩
  · rw [show up τ 6 p v 1 1 = τ 1 1 from (by first | rfl | (simp only [up_g]; (repeat (rw [if_neg (by omega)]))))]; exact ⟨b1, b2, b3, b4, b5, b6⟩
  · have i1 : i < τ 0 6 := i1
    obtain ⟨q1, q2, q3, q4, q5, q6, q7, q8, q9⟩ := hp i i0 i1
    exact ⟨q1.trans (by first | rfl | (symm; simp only [up_g]; (repeat (rw [if_neg (by omega)])))), q2.trans (by first | rfl | (symm; simp only [up_g]; (repeat (rw [if_neg (by omega)])))), q3.trans (by first | rfl | (symm; simp only [up_g]; (repeat (rw [if_neg (by omega)])))), (show σ 7 i = _ from q4.trans (by rw [show up τ 6 p v 1 (29 + i) = τ 1 (29 + i) from (by first | rfl | (simp only [up_g]; (repeat (rw [if_neg (by omega)]))))])), (q5.trans (cP_cong fun k hk => (by first | rfl | (symm; simp only [up_g]; (repeat (rw [if_neg (by omega)])))))), (by simp only [up_g]; (repeat (rw [if_neg (by omega)])); omega), (by simp only [up_g]; (repeat (rw [if_neg (by omega)])); omega), (by simp only [up_g]; (repeat (rw [if_neg (by omega)])); omega), (by simp only [up_g]; (repeat (rw [if_neg (by omega)])); omega)⟩
  · have i1 : i < τ 0 7 := i1
    obtain ⟨q1, q2, q3, q4, q5, q6, q7, q8, q9, q10, q11, q12, q13, q14, q15, q16, q17⟩ := hq i i0 i1
    exact ⟨q1.trans (by first | rfl | (symm; simp only [up_g]; (repeat (rw [if_neg (by omega)])))), (by
      simp only [up_g, Nat.reduceAdd]
      by_cases hi : i = p
      · subst hi; simp
      · rw [if_neg (by omega), if_neg (by omega)]; exact q2), (show σ 11 i = _ from q3.trans (by rw [show up τ 6 p v 1 (41 + i) = τ 1 (41 + i) from (by first | rfl | (simp only [up_g]; (repeat (rw [if_neg (by omega)]))))])), q4.trans (by first | rfl | (symm; simp only [up_g]; (repeat (rw [if_neg (by omega)])))), q5.trans (by first | rfl | (symm; simp only [up_g]; (repeat (rw [if_neg (by omega)])))), q6.trans (by first | rfl | (symm; simp only [up_g]; (repeat (rw [if_neg (by omega)])))), q7.trans (by first | rfl | (symm; simp only [up_g]; (repeat (rw [if_neg (by omega)])))), (show σ 16 i = _ from q8.trans (by rw [show up τ 6 p v 1 (141 + i) = τ 1 (141 + i) from (by first | rfl | (simp only [up_g]; (repeat (rw [if_neg (by omega)]))))])), (by simp only [up_g]; (repeat (rw [if_neg (by omega)])); omega), (by simp only [up_g]; (repeat (rw [if_neg (by omega)])); omega), (by simp only [up_g]; (repeat (rw [if_neg (by omega)])); omega), (by simp only [up_g]; (repeat (rw [if_neg (by omega)])); omega), (by simp only [up_g]; (repeat (rw [if_neg (by omega)])); omega), (by simp only [up_g]; (repeat (rw [if_neg (by omega)])); omega), (by
      simp only [up_g]
      by_cases hi : i = p
      · subst hi; simp <;> omega
      · rw [if_neg (by omega)]; exact q15), (by
      simp only [up_g]
      by_cases hi : i = p
      · subst hi; simp <;> omega
      · rw [if_neg (by omega)]; exact q16), (by simp only [up_g]; (repeat (rw [if_neg (by omega)])); exact q17)⟩
theorem RH.stay {σ τ : St} (h : RH σ 3 τ) {p v : Int} (p0 : 0 ≤ p) (p1 : p < τ 0 7) (v0 : 0 < τ 1 (41 + p)) : RH (up σ 12 p v) 3 (up τ 1 (61 + p) v) := by
  obtain ⟨⟨a1, a2, a3, a4, a5, a6⟩, ⟨b1, b2, b3, b4, b5, b6⟩, hp, hq⟩ := h
  have bp : p < 20 := by omega
  refine ⟨⟨a1.trans (by first | rfl | (symm; simp only [up_g]; (repeat (rw [if_neg (by omega)])))), a2.trans (by first | rfl | (symm; simp only [up_g]; (repeat (rw [if_neg (by omega)])))), a3.trans (by first | rfl | (symm; simp only [up_g]; (repeat (rw [if_neg (by omega)])))), a4.trans (by first | rfl | (symm; simp only [up_g]; (repeat (rw [if_neg (by omega)])))), a5, a6⟩, ?_, fun i i0 i1 => ?_, fun i i0 i1 => ?_⟩
  · rw [show up τ 1 (61 + p) v 1 1 = τ 1 1 from (by first | rfl | (simp only [up_g]; (repeat (rw [if_neg (by omega)]))))]; exact ⟨b1, b2, b3, b4, b5, b6⟩
  · have i1 : i < τ 0 6 := i1
    obtain ⟨q1, q2, q3, q4, q5, q6, q7, q8, q9⟩ := hp i i0 i1
    exact ⟨q1.trans (by first | rfl | (symm; simp only [up_g]; (repeat (rw [if_neg (by omega)])))), q2.trans (by first | rfl | (symm; simp only [up_g]; (repeat (rw [if_neg (by omega)])))), q3.trans (by first | rfl | (symm; simp only [up_g]; (repeat (rw [if_neg (by omega)])))), (show σ 7 i = _ from q4.trans (by rw [show up τ 1 (61 + p) v 1 (29 + i) = τ 1 (29 + i) from (by first | rfl | (simp only [up_g]; (repeat (rw [if_neg (by omega)]))))])), (q5.trans (cP_cong fun k hk => (by first | rfl | (symm; simp only [up_g]; (repeat (rw [if_neg (by omega)])))))), (by simp only [up_g]; (repeat (rw [if_neg (by omega)])); omega), (by simp only [up_g]; (repeat (rw [if_neg (by omega)])); omega), (by simp only [up_g]; (repeat (rw [if_neg (by omega)])); omega), (by simp only [up_g]; (repeat (rw [if_neg (by omega)])); omega)⟩
  · have i1 : i < τ 0 7 := i1
    obtain ⟨q1, q2, q3, q4, q5, q6, q7, q8, q9, q10, q11, q12, q13, q14, q15, q16, q17⟩ := hq i i0 i1
    exact ⟨q1.trans (by first | rfl | (symm; simp only [up_g]; (repeat (rw [if_neg (by omega)])))), q2.trans (by first | rfl | (symm; simp only [up_g]; (repeat (rw [if_neg (by omega)])))), (show σ 11 i = _ from q3.trans (by rw [show up τ 1 (61 + p) v 1 (41 + i) = τ 1 (41 + i) from (by first | rfl | (simp only [up_g]; (repeat (rw [if_neg (by omega)]))))])), (by
      simp only [up_g, Nat.reduceAdd]
      by_cases hi : i = p
      · subst hi; simp
      · rw [if_neg (by omega), if_neg (by omega)]; exact q4), q5.trans (by first | rfl | (symm; simp only [up_g]; (repeat (rw [if_neg (by omega)])))), q6.trans (by first | rfl | (symm; simp only [up_g]; (repeat (rw [if_neg (by omega)])))), q7.trans (by first | rfl | (symm; simp only [up_g]; (repeat (rw [if_neg (by omega)])))), (show σ 16 i = _ from q8.trans (by rw [show up τ 1 (61 + p) v 1 (141 + i) = τ 1 (141 + i) from (by first | rfl | (simp only [up_g]; (repeat (rw [if_neg (by omega)]))))])), (by simp only [up_g]; (repeat (rw [if_neg (by omega)])); omega), (by simp only [up_g]; (repeat (rw [if_neg (by omega)])); omega), (by simp only [up_g]; (repeat (rw [if_neg (by omega)])); omega), (by simp only [up_g]; (repeat (rw [if_neg (by omega)])); omega), (by simp only [up_g]; (repeat (rw [if_neg (by omega)])); omega), (by simp only [up_g]; (repeat (rw [if_neg (by omega)])); omega), (by simp only [up_g]; (repeat (rw [if_neg (by omega)])); omega), (by simp only [up_g]; (repeat (rw [if_neg (by omega)])); omega), (by
      simp only [up_g]
      by_cases hi : i = p
      · subst hi
        intro hz
        rw [if_neg (by omega)] at hz
        omega
      · (repeat (rw [if_neg (by omega)])); exact q17)⟩
theorem RH.said {σ τ : St} (h : RH σ 3 τ) {p v : Int} (p0 : 0 ≤ p) (p1 : p < τ 0 7) : RH (up σ 14 p v) 3 (up τ 1 (101 + p) v) := by
  obtain ⟨⟨a1, a2, a3, a4, a5, a6⟩, ⟨b1, b2, b3, b4, b5, b6⟩, hp, hq⟩ := h
  have bp : p < 20 := by omega
  refine ⟨⟨a1.trans (by first | rfl | (symm; simp only [up_g]; (repeat (rw [if_neg (by omega)])))), a2.trans (by first | rfl | (symm; simp only [up_g]; (repeat (rw [if_neg (by omega)])))), a3.trans (by first | rfl | (symm; simp only [up_g]; (repeat (rw [if_neg (by omega)])))), a4.trans (by first | rfl | (symm; simp only [up_g]; (repeat (rw [if_neg (by omega)])))), a5, a6⟩, ?_, fun i i0 i1 => ?_, fun i i0 i1 => ?_⟩
  · rw [show up τ 1 (101 + p) v 1 1 = τ 1 1 from (by first | rfl | (simp only [up_g]; (repeat (rw [if_neg (by omega)]))))]; exact ⟨b1, b2, b3, b4, b5, b6⟩
  · have i1 : i < τ 0 6 := i1
    obtain ⟨q1, q2, q3, q4, q5, q6, q7, q8, q9⟩ := hp i i0 i1
    exact ⟨q1.trans (by first | rfl | (symm; simp only [up_g]; (repeat (rw [if_neg (by omega)])))), q2.trans (by first | rfl | (symm; simp only [up_g]; (repeat (rw [if_neg (by omega)])))), q3.trans (by first | rfl | (symm; simp only [up_g]; (repeat (rw [if_neg (by omega)])))), (show σ 7 i = _ from q4.trans (by rw [show up τ 1 (101 + p) v 1 (29 + i) = τ 1 (29 + i) from (by first | rfl | (simp only [up_g]; (repeat (rw [if_neg (by omega)]))))])), (q5.trans (cP_cong fun k hk => (by first | rfl | (symm; simp only [up_g]; (repeat (rw [if_neg (by omega)])))))), (by simp only [up_g]; (repeat (rw [if_neg (by omega)])); omega), (by simp only [up_g]; (repeat (rw [if_neg (by omega)])); omega), (by simp only [up_g]; (repeat (rw [if_neg (by omega)])); omega), (by simp only [up_g]; (repeat (rw [if_neg (by omega)])); omega)⟩
  · have i1 : i < τ 0 7 := i1
    obtain ⟨q1, q2, q3, q4, q5, q6, q7, q8, q9, q10, q11, q12, q13, q14, q15, q16, q17⟩ := hq i i0 i1
    exact ⟨q1.trans (by first | rfl | (symm; simp only [up_g]; (repeat (rw [if_neg (by omega)])))), q2.trans (by first | rfl | (symm; simp only [up_g]; (repeat (rw [if_neg (by omega)])))), (show σ 11 i = _ from q3.trans (by rw [show up τ 1 (101 + p) v 1 (41 + i) = τ 1 (41 + i) from (by first | rfl | (simp only [up_g]; (repeat (rw [if_neg (by omega)]))))])), q4.trans (by first | rfl | (symm; simp only [up_g]; (repeat (rw [if_neg (by omega)])))), q5.trans (by first | rfl | (symm; simp only [up_g]; (repeat (rw [if_neg (by omega)])))), (by
      simp only [up_g, Nat.reduceAdd]
      by_cases hi : i = p
      · subst hi; simp
      · rw [if_neg (by omega), if_neg (by omega)]; exact q6), q7.trans (by first | rfl | (symm; simp only [up_g]; (repeat (rw [if_neg (by omega)])))), (show σ 16 i = _ from q8.trans (by rw [show up τ 1 (101 + p) v 1 (141 + i) = τ 1 (141 + i) from (by first | rfl | (simp only [up_g]; (repeat (rw [if_neg (by omega)]))))])), (by simp only [up_g]; (repeat (rw [if_neg (by omega)])); omega), (by simp only [up_g]; (repeat (rw [if_neg (by omega)])); omega), (by simp only [up_g]; (repeat (rw [if_neg (by omega)])); omega), (by simp only [up_g]; (repeat (rw [if_neg (by omega)])); omega), (by simp only [up_g]; (repeat (rw [if_neg (by omega)])); omega), (by simp only [up_g]; (repeat (rw [if_neg (by omega)])); omega), (by simp only [up_g]; (repeat (rw [if_neg (by omega)])); omega), (by simp only [up_g]; (repeat (rw [if_neg (by omega)])); omega), (by simp only [up_g]; (repeat (rw [if_neg (by omega)])); exact q17)⟩
theorem RH.hear {σ τ : St} (h : RH σ 3 τ) {p v : Int} (p0 : 0 ≤ p) (p1 : p < τ 0 7) : RH (up σ 15 p v) 3 (up τ 1 (121 + p) v) := by
  obtain ⟨⟨a1, a2, a3, a4, a5, a6⟩, ⟨b1, b2, b3, b4, b5, b6⟩, hp, hq⟩ := h
  have bp : p < 20 := by omega
  refine ⟨⟨a1.trans (by first | rfl | (symm; simp only [up_g]; (repeat (rw [if_neg (by omega)])))), a2.trans (by first | rfl | (symm; simp only [up_g]; (repeat (rw [if_neg (by omega)])))), a3.trans (by first | rfl | (symm; simp only [up_g]; (repeat (rw [if_neg (by omega)])))), a4.trans (by first | rfl | (symm; simp only [up_g]; (repeat (rw [if_neg (by omega)])))), a5, a6⟩, ?_, fun i i0 i1 => ?_, fun i i0 i1 => ?_⟩
  · rw [show up τ 1 (121 + p) v 1 1 = τ 1 1 from (by first | rfl | (simp only [up_g]; (repeat (rw [if_neg (by omega)]))))]; exact ⟨b1, b2, b3, b4, b5, b6⟩
  · have i1 : i < τ 0 6 := i1
    obtain ⟨q1, q2, q3, q4, q5, q6, q7, q8, q9⟩ := hp i i0 i1
    exact ⟨q1.trans (by first | rfl | (symm; simp only [up_g]; (repeat (rw [if_neg (by omega)])))), q2.trans (by first | rfl | (symm; simp only [up_g]; (repeat (rw [if_neg (by omega)])))), q3.trans (by first | rfl | (symm; simp only [up_g]; (repeat (rw [if_neg (by omega)])))), (show σ 7 i = _ from q4.trans (by rw [show up τ 1 (121 + p) v 1 (29 + i) = τ 1 (29 + i) from (by first | rfl | (simp only [up_g]; (repeat (rw [if_neg (by omega)]))))])), (q5.trans (cP_cong fun k hk => (by first | rfl | (symm; simp only [up_g]; (repeat (rw [if_neg (by omega)])))))), (by simp only [up_g]; (repeat (rw [if_neg (by omega)])); omega), (by simp only [up_g]; (repeat (rw [if_neg (by omega)])); omega), (by simp only [up_g]; (repeat (rw [if_neg (by omega)])); omega), (by simp only [up_g]; (repeat (rw [if_neg (by omega)])); omega)⟩
  · have i1 : i < τ 0 7 := i1
    obtain ⟨q1, q2, q3, q4, q5, q6, q7, q8, q9, q10, q11, q12, q13, q14, q15, q16, q17⟩ := hq i i0 i1
    exact ⟨q1.trans (by first | rfl | (symm; simp only [up_g]; (repeat (rw [if_neg (by omega)])))), q2.trans (by first | rfl | (symm; simp only [up_g]; (repeat (rw [if_neg (by omega)])))), (show σ 11 i = _ from q3.trans (by rw [show up τ 1 (121 + p) v 1 (41 + i) = τ 1 (41 + i) from (by first | rfl | (simp only [up_g]; (repeat (rw [if_neg (by omega)]))))])), q4.trans (by first | rfl | (symm; simp only [up_g]; (repeat (rw [if_neg (by omega)])))), q5.trans (by first | rfl | (symm; simp only [up_g]; (repeat (rw [if_neg (by omega)])))), q6.trans (by first | rfl | (symm; simp only [up_g]; (repeat (rw [if_neg (by omega)])))), (by
      simp only [up_g, Nat.reduceAdd]
      by_cases hi : i = p
      · subst hi; simp
      · rw [if_neg (by omega), if_neg (by omega)]; exact q7), (show σ 16 i = _ from q8.trans (by rw [show up τ 1 (121 + p) v 1 (141 + i) = τ 1 (141 + i) from (by first | rfl | (simp only [up_g]; (repeat (rw [if_neg (by omega)]))))])), (by simp only [up_g]; (repeat (rw [if_neg (by omega)])); omega), (by simp only [up_g]; (repeat (rw [if_neg (by omega)])); omega), (by simp only [up_g]; (repeat (rw [if_neg (by omega)])); omega), (by simp only [up_g]; (repeat (rw [if_neg (by omega)])); omega), (by simp only [up_g]; (repeat (rw [if_neg (by omega)])); omega), (by simp only [up_g]; (repeat (rw [if_neg (by omega)])); omega), (by simp only [up_g]; (repeat (rw [if_neg (by omega)])); omega), (by simp only [up_g]; (repeat (rw [if_neg (by omega)])); omega), (by simp only [up_g]; (repeat (rw [if_neg (by omega)])); exact q17)⟩
theorem RH.acce {σ τ : St} (h : RH σ 3 τ) {p v : Int} (p0 : 0 ≤ p) (p1 : p < τ 0 7) (v0 : -1 ≤ v) (v1 : v < 20) : RH (up σ 16 p v) 3 (up τ 1 (141 + p) (v + 1)) := by
  obtain ⟨⟨a1, a2, a3, a4, a5, a6⟩, ⟨b1, b2, b3, b4, b5, b6⟩, hp, hq⟩ := h
  have bp : p < 20 := by omega
  refine ⟨⟨a1.trans (by first | rfl | (symm; simp only [up_g]; (repeat (rw [if_neg (by omega)])))), a2.trans (by first | rfl | (symm; simp only [up_g]; (repeat (rw [if_neg (by omega)])))), a3.trans (by first | rfl | (symm; simp only [up_g]; (repeat (rw [if_neg (by omega)])))), a4.trans (by first | rfl | (symm; simp only [up_g]; (repeat (rw [if_neg (by omega)])))), a5, a6⟩, ?_, fun i i0 i1 => ?_, fun i i0 i1 => ?_⟩
  · rw [show up τ 1 (141 + p) (v + 1) 1 1 = τ 1 1 from (by first | rfl | (simp only [up_g]; (repeat (rw [if_neg (by omega)]))))]; exact ⟨b1, b2, b3, b4, b5, b6⟩
  · have i1 : i < τ 0 6 := i1
    obtain ⟨q1, q2, q3, q4, q5, q6, q7, q8, q9⟩ := hp i i0 i1
    exact ⟨q1.trans (by first | rfl | (symm; simp only [up_g]; (repeat (rw [if_neg (by omega)])))), q2.trans (by first | rfl | (symm; simp only [up_g]; (repeat (rw [if_neg (by omega)])))), q3.trans (by first | rfl | (symm; simp only [up_g]; (repeat (rw [if_neg (by omega)])))), (show σ 7 i = _ from q4.trans (by rw [show up τ 1 (141 + p) (v + 1) 1 (29 + i) = τ 1 (29 + i) from (by first | rfl | (simp only [up_g]; (repeat (rw [if_neg (by omega)]))))])), (q5.trans (cP_cong fun k hk => (by first | rfl | (symm; simp only [up_g]; (repeat (rw [if_neg (by omega)])))))), (by simp only [up_g]; (repeat (rw [if_neg (by omega)])); omega), (by simp only [up_g]; (repeat (rw [if_neg (by omega)])); omega), (by simp only [up_g]; (repeat (rw [if_neg (by omega)])); omega), (by simp only [up_g]; (repeat (rw [if_neg (by omega)])); omega)⟩
  · have i1 : i < τ 0 7 := i1
    obtain ⟨q1, q2, q3, q4, q5, q6, q7, q8, q9, q10, q11, q12, q13, q14, q15, q16, q17⟩ := hq i i0 i1
    exact ⟨q1.trans (by first | rfl | (symm; simp only [up_g]; (repeat (rw [if_neg (by omega)])))), q2.trans (by first | rfl | (symm; simp only [up_g]; (repeat (rw [if_neg (by omega)])))), (show σ 11 i = _ from q3.trans (by rw [show up τ 1 (141 + p) (v + 1) 1 (41 + i) = τ 1 (41 + i) from (by first | rfl | (simp only [up_g]; (repeat (rw [if_neg (by omega)]))))])), q4.trans (by first | rfl | (symm; simp only [up_g]; (repeat (rw [if_neg (by omega)])))), q5.trans (by first | rfl | (symm; simp only [up_g]; (repeat (rw [if_neg (by omega)])))), q6.trans (by first | rfl | (symm; simp only [up_g]; (repeat (rw [if_neg (by omega)])))), q7.trans (by first | rfl | (symm; simp only [up_g]; (repeat (rw [if_neg (by omega)])))), (by
      simp only [up_g, Nat.reduceAdd]
      by_cases hi : i = p
      · subst hi; simp <;> omega
      · rw [if_neg (by omega), if_neg (by omega)]; exact q8), (by simp only [up_g]; (repeat (rw [if_neg (by omega)])); omega), (by simp only [up_g]; (repeat (rw [if_neg (by omega)])); omega), (by
      simp only [up_g]
      by_cases hi : i = p
      · subst hi; simp <;> omega
      · rw [if_neg (by omega)]; exact q11), (by
      simp only [up_g]
      by_cases hi : i = p
      · subst hi; simp <;> omega
      · rw [if_neg (by omega)]; exact q12), (by simp only [up_g]; (repeat (rw [if_neg (by omega)])); omega), (by simp only [up_g]; (repeat (rw [if_neg (by omega)])); omega), (by simp only [up_g]; (repeat (rw [if_neg (by omega)])); omega), (by simp only [up_g]; (repeat (rw [if_neg (by omega)])); omega), (by simp only [up_g]; (repeat (rw [if_neg (by omega)])); exact q17)⟩
theorem RH.dra {σ τ : St} (h : RH σ 3 τ) {v : Int} : RH (up σ 3 0 v) 3 (up τ 1 2 v) := by
  obtain ⟨⟨a1, a2, a3, a4, a5, a6⟩, ⟨b1, b2, b3, b4, b5, b6⟩, hp, hq⟩ := h
  refine ⟨⟨rfl, a2, a3, a4, a5, a6⟩, ⟨b1, b2, b3, b4, b5, b6⟩, fun i i0 i1 => ?_, fun i i0 i1 => ?_⟩
  · refine (hp i i0 i1).cg rfl rfl rfl rfl rfl rfl (by first | rfl | (simp only [up_g]; (repeat (rw [if_neg (by omega)])))) (by first | rfl | (simp only [up_g]; (repeat (rw [if_neg (by omega)])))) (by first | rfl | (simp only [up_g]; (repeat (rw [if_neg (by omega)])))) ?_ (Int.le_refl _)
    exact cP_cong (fun k hk => (by first | rfl | (simp only [up_g]; (repeat (rw [if_neg (by omega)])))))
  · exact (hq i i0 i1).cg rfl rfl rfl rfl rfl rfl rfl rfl rfl rfl (by first | rfl | (simp only [up_g]; (repeat (rw [if_neg (by omega)])))) (by first | rfl | (simp only [up_g]; (repeat (rw [if_neg (by omega)])))) (by first | rfl | (simp only [up_g]; (repeat (rw [if_neg (by omega)])))) (by first | rfl | (simp only [up_g]; (repeat (rw [if_neg (by omega)])))) (by first | rfl | (simp only [up_g]; (repeat (rw [if_neg (by omega)])))) (by first | rfl | (simp only [up_g]; (repeat (rw [if_neg (by omega)])))) (Int.le_refl _)
theorem RH.min {σ τ : St} (h : RH σ 3 τ) {v : Int} (v0 : 0 ≤ v) (v1 : v ≤ 59) : RH (up σ 3 1 v) 3 (up τ 1 1 v) := by
  obtain ⟨⟨a1, a2, a3, a4, a5, a6⟩, ⟨b1, b2, b3, b4, b5, b6⟩, hp, hq⟩ := h
  refine ⟨⟨a1, rfl, a3, a4, a5, a6⟩, ⟨b1, b2, b3, b4, v0, v1⟩, fun i i0 i1 => ?_, fun i i0 i1 => ?_⟩
  · refine (hp i i0 i1).cg rfl rfl rfl rfl rfl rfl (by first | rfl | (simp only [up_g]; (repeat (rw [if_neg (by omega)])))) (by first | rfl | (simp only [up_g]; (repeat (rw [if_neg (by omega)])))) (by first | rfl | (simp only [up_g]; (repeat (rw [if_neg (by omega)])))) ?_ (Int.le_refl _)
    exact cP_cong (fun k hk => (by first | rfl | (simp only [up_g]; (repeat (rw [if_neg (by omega)])))))
  · exact (hq i i0 i1).cg rfl rfl rfl rfl rfl rfl rfl rfl rfl rfl (by first | rfl | (simp only [up_g]; (repeat (rw [if_neg (by omega)])))) (by first | rfl | (simp only [up_g]; (repeat (rw [if_neg (by omega)])))) (by first | rfl | (simp only [up_g]; (repeat (rw [if_neg (by omega)])))) (by first | rfl | (simp only [up_g]; (repeat (rw [if_neg (by omega)])))) (by first | rfl | (simp only [up_g]; (repeat (rw [if_neg (by omega)])))) (by first | rfl | (simp only [up_g]; (repeat (rw [if_neg (by omega)])))) (Int.le_refl _)
theorem RH.eve {σ τ : St} (h : RH σ 3 τ) {v : Int} : RH (up σ 3 2 v) 3 (up τ 1 0 v) := by
  obtain ⟨⟨a1, a2, a3, a4, a5, a6⟩, ⟨b1, b2, b3, b4, b5, b6⟩, hp, hq⟩ := h
  refine ⟨⟨a1, a2, rfl, a4, a5, a6⟩, ⟨b1, b2, b3, b4, b5, b6⟩, fun i i0 i1 => ?_, fun i i0 i1 => ?_⟩
  · refine (hp i i0 i1).cg rfl rfl rfl rfl rfl rfl (by first | rfl | (simp only [up_g]; (repeat (rw [if_neg (by omega)])))) (by first | rfl | (simp only [up_g]; (repeat (rw [if_neg (by omega)])))) (by first | rfl | (simp only [up_g]; (repeat (rw [if_neg (by omega)])))) ?_ (Int.le_refl _)
    exact cP_cong (fun k hk => (by first | rfl | (simp only [up_g]; (repeat (rw [if_neg (by omega)])))))
  · exact (hq i i0 i1).cg rfl rfl rfl rfl rfl rfl rfl rfl rfl rfl (by first | rfl | (simp only [up_g]; (repeat (rw [if_neg (by omega)])))) (by first | rfl | (simp only [up_g]; (repeat (rw [if_neg (by omega)])))) (by first | rfl | (simp only [up_g]; (repeat (rw [if_neg (by omega)])))) (by first | rfl | (simp only [up_g]; (repeat (rw [if_neg (by omega)])))) (by first | rfl | (simp only [up_g]; (repeat (rw [if_neg (by omega)])))) (by first | rfl | (simp only [up_g]; (repeat (rw [if_neg (by omega)])))) (Int.le_refl _)
theorem RH.swe {σ τ : St} (h : RH σ 3 τ) {v : Int} : RH (up σ 3 3 v) 3 (up τ 1 4 v) := by
  obtain ⟨⟨a1, a2, a3, a4, a5, a6⟩, ⟨b1, b2, b3, b4, b5, b6⟩, hp, hq⟩ := h
  refine ⟨⟨a1, a2, a3, rfl, a5, a6⟩, ⟨b1, b2, b3, b4, b5, b6⟩, fun i i0 i1 => ?_, fun i i0 i1 => ?_⟩
  · refine (hp i i0 i1).cg rfl rfl rfl rfl rfl rfl (by first | rfl | (simp only [up_g]; (repeat (rw [if_neg (by omega)])))) (by first | rfl | (simp only [up_g]; (repeat (rw [if_neg (by omega)])))) (by first | rfl | (simp only [up_g]; (repeat (rw [if_neg (by omega)])))) ?_ (Int.le_refl _)
    exact cP_cong (fun k hk => (by first | rfl | (simp only [up_g]; (repeat (rw [if_neg (by omega)])))))
  · exact (hq i i0 i1).cg rfl rfl rfl rfl rfl rfl rfl rfl rfl rfl (by first | rfl | (simp only [up_g]; (repeat (rw [if_neg (by omega)])))) (by first | rfl | (simp only [up_g]; (repeat (rw [if_neg (by omega)])))) (by first | rfl | (simp only [up_g]; (repeat (rw [if_neg (by omega)])))) (by first | rfl | (simp only [up_g]; (repeat (rw [if_neg (by omega)])))) (by first | rfl | (simp only [up_g]; (repeat (rw [if_neg (by omega)])))) (by first | rfl | (simp only [up_g]; (repeat (rw [if_neg (by omega)])))) (Int.le_refl _)
