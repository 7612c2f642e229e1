/-! THE LAW: the text constants at its start -/
theorem strB_ap2 : ∀ i, i < 28 → ∀ j, j < 28 → i = j ∨ Int32.ofNat (strL.getD i 0) ≠ Int32.ofNat (strL.getD j 0) ∨ ∃ q, q < strL.getD i 0 ∧ (q < strL.getD j 0 ∧ (strB.getD i []).getD q 0 ≠ (strB.getD j []).getD q 0) := by decide +kernel
theorem sk_start {s : State} {a : Array Value} (ht : ∀ w ∈ lw_tbl, w.before a s = true) (hg : (Jvm.Cond.and given_1 narrow_1).before a s = true) : ∃ ks : (Nat → Nat) × (Nat → Nat), ∀ (D : va_G) (cA : Nat → ClassId) (aX : Nat → Nat), Sk (fun q : Nat => s.heap.size ≤ q) (D, cA, aX, ks) s := by
  have hs : ∀ c ∈ lw_flat, c.before a s = true := flat_of_before _ hg
  have hA : ∀ q : Nat, q < s.heap.size → ¬ (fun q : Nat => s.heap.size ≤ q) q := fun q h => Nat.not_le.mpr h
  have h0 : ∀ i : Nat, ∃ q : Nat × Nat, i < 28 → (tmS i).eval a s none [] s = some (.ref q.1) ∧ va_O "java/lang/String" q.1 (fun q : Nat => s.heap.size ≤ q) s s.heap ∧ va_OF "java/lang/String" "coder" "B" (.int 0) q.1 (fun q : Nat => s.heap.size ≤ q) s s.heap ∧ va_OF "java/lang/String" "value" "[B" (.ref q.2) q.1 (fun q : Nat => s.heap.size ≤ q) s s.heap ∧ va_T .byte q.2 (strL.getD i 0) (fun j => .int ((strB.getD i []).getD j 0)) (fun q : Nat => s.heap.size ≤ q) s s.heap := by
    intro i
    by_cases hi : i < 28
    · obtain ⟨x, c, cA, kA, q1, q2, q3, q4, q5, q6, -⟩ := Cond.exactly_spec (args := a) (first := s) (o := none) (s := s) (idx := []) (t := tmS i) (cls := "java/lang/String") (hs _ (ls_ex i hi))
      obtain ⟨t, ht, hT⟩ := va_Tof (f := fun j => .int ((strB.getD i []).getD j 0)) (A := fun q : Nat => s.heap.size ≤ q) (strL_sm i hi) (hs _ (ls_ar i hi)) (va_eqt (hs _ (ls_le i hi))) (fun j hj => va_eqt (hs _ (ls_el i hi j hj))) hA
      exact ⟨(x, t), fun _ => ⟨q1, ⟨cA, q3, q5, by rw [q6]; exact q2, hA x (Array.getElem?_eq_some_iff.mp q3).1⟩, vk_OFof q1 (va_eqt (hs _ (ls_co i hi))) hA, vk_OFof q1 ht hA, hT⟩⟩
    · exact ⟨(0, 0), fun h => absurd h hi⟩
  obtain ⟨ad, had⟩ := Classical.axiomOfChoice h0
  refine ⟨(fun i => (ad i).1, fun i => (ad i).2), fun D cA aX => ⟨⟨fun i hi => (had i hi).2, fun i j hi hj e => ?_⟩, fun i q hq => ?_, va_Zof (ht _ lt_cs) (ht _ lt_i1) (va_eqi (hs _ ls_cs)) hA, va_Zqof (ht _ lt_si) (ht _ lt_i2) (hs _ ls_si) hA⟩⟩
  · have e : (ad i).1 = (ad j).1 := e
    obtain ⟨_, _, _, ⟨cf, k, fi, f, cell, p1, p2, p3, p4, p5, p6⟩, ⟨c2, t1, t2, t3, t4, t5, t6, t7⟩⟩ := had i hi
    obtain ⟨_, _, _, ⟨cf', k', fi', f', cell', p1', p2', p3', p4', p5', p6'⟩, ⟨c2', t1', t2', t3', t4', t5', t6', t7'⟩⟩ := had j hj
    rw [← e] at p3'
    cases p1.symm.trans p1'
    cases p3.symm.trans p3'
    have ev := p5.symm.trans p5'
    have ev : (ad i).2 = (ad j).2 := by
      injection ev with ev
      injection ev
    rw [← ev] at t1'
    cases t1.symm.trans t1'
    rcases strB_ap2 i hi j hj with g | g | ⟨q, q0, q1, q2⟩
    · exact g
    · exact absurd (t5.symm.trans t5') g
    · have := (t6 q q0).symm.trans (t6' q q1)
      injection this with this
      injection this with this
      exact absurd this q2
  · have hi : i < 28 := (List.getElem?_eq_some_iff.mp hq).1
    have eq : strT.getD i (0, "") = q := by rw [List.getD_eq_getElem?_getD, hq]; rfl
    have h1 := ht _ (List.mem_of_getElem? (lt_sr i hi))
    have h2 := (had i hi).1
    unfold tmS at h2
    rw [strK_T i hi, eq] at h2
    rw [eq] at h1
    exact vk_R.of (A := a) h1 h2
