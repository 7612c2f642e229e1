/-! THE LAW: what is known of the classes -/
theorem start_cls {s : State} {a : Array Value} (hts : ∀ w ∈ tbl, w.before a s = true) : ∃ (dC : Nat → ClassId) (dI : Nat → Nat → Nat), ∀ (k : Nat) (q : vw_C), vwCl[k]? = some q → u_Kn s q.1 q.2.1 q.2.2 (dC k) (dI k) := by
  obtain ⟨c0, i0, h0⟩ := u_known (C := RX0) (T := TX0) (N := 4) (n := 4) hts uwX0 (hts _ q_552)
  obtain ⟨c1, i1, h1⟩ := u_known (C := RX1) (T := TX1) (N := 5) (n := 5) hts uwX1 (hts _ q_530)
  obtain ⟨c2, i2, h2⟩ := u_known (C := RX2) (T := TX2) (N := 19) (n := 19) hts uwX2 (hts _ q_203)
  obtain ⟨c3, i3, h3⟩ := u_known (C := RX3) (T := TX3) (N := 5) (n := 5) hts uwX3 (hts _ q_508)
  obtain ⟨c4, i4, h4⟩ := u_known (C := RX4) (T := TX4) (N := 15) (n := 15) hts uwX4 (hts _ q_571)
  obtain ⟨c5, i5, h5⟩ := u_known (C := RX5) (T := TX5) (N := 9) (n := 9) hts uwX5 (hts _ q_447)
  obtain ⟨c6, i6, h6⟩ := u_known (C := RX6) (T := TX6) (N := 3) (n := 3) hts uwX6 (hts _ q_318)
  obtain ⟨c7, i7, h7⟩ := u_known (C := RX7) (T := TX7) (N := 2) (n := 2) hts uwX7 (hts _ q_189)
  obtain ⟨c8, i8, h8⟩ := u_known (C := RX8) (T := TX8) (N := 6) (n := 6) hts uwX8 (hts _ q_455)
  obtain ⟨c9, i9, h9⟩ := u_known (C := RX9) (T := TX9) (N := 16) (n := 16) hts uwX9 (hts _ q_312)
  obtain ⟨c10, i10, h10⟩ := u_known (C := RX10) (T := TX10) (N := 4) (n := 4) hts uwX10 (hts _ q_425)
  obtain ⟨c11, i11, h11⟩ := u_known (C := RX11) (T := TX11) (N := 15) (n := 15) hts uwX11 (hts _ q_181)
  obtain ⟨c12, i12, h12⟩ := u_known (C := RX12) (T := TX12) (N := 87) (n := 87) hts uwX12 (hts _ q_1542)
  refine ⟨fun k => match k with | 0 => c0 | 1 => c1 | 2 => c2 | 3 => c3 | 4 => c4 | 5 => c5 | 6 => c6 | 7 => c7 | 8 => c8 | 9 => c9 | 10 => c10 | 11 => c11 | _ => c12, fun k => match k with | 0 => i0 | 1 => i1 | 2 => i2 | 3 => i3 | 4 => i4 | 5 => i5 | 6 => i6 | 7 => i7 | 8 => i8 | 9 => i9 | 10 => i10 | 11 => i11 | _ => i12, ?_⟩
  intro k q hq
  match k, hq with
  | 0, hq => cases hq; exact h0
  | 1, hq => cases hq; exact h1
  | 2, hq => cases hq; exact h2
  | 3, hq => cases hq; exact h3
  | 4, hq => cases hq; exact h4
  | 5, hq => cases hq; exact h5
  | 6, hq => cases hq; exact h6
  | 7, hq => cases hq; exact h7
  | 8, hq => cases hq; exact h8
  | 9, hq => cases hq; exact h9
  | 10, hq => cases hq; exact h10
  | 11, hq => cases hq; exact h11
  | 12, hq => cases hq; exact h12
  | k + 13, hq => simp [vwCl] at hq
theorem start_arr {s : State} {a : Array Value} {ty : FieldType} (h : (Cond.arrayClass ty).before a s = true) : ∃ cA : ClassId, ArrOfT s cA ty ∧ s.vm.findClass ("[" ++ ty.toString) = some cA := by
  obtain ⟨c, k, comp, h1, h2, h3⟩ := Cond.arrayClass_spec h
  exact ⟨c, fun n z => ⟨(fun k h => by cases h), k, h2, comp, h3⟩, h1⟩
theorem start_obj {s : State} {a : Array Value} {C : String} (h : (Cond.arrayOver (.object C)).before a s = true) : ∃ cA : ClassId, ArrOfT s cA (.object C) ∧ va_RA s cA (.object C) := by
  obtain ⟨comp, c, k, h1, h2, h3, h4, h5⟩ := Cond.arrayOver_spec h
  exact ⟨c, fun n z => ⟨(fun k h => by cases h), k, h3, comp, h4⟩, k, comp, h3, h4, h1, h5⟩
theorem lw_over : Cond.arrayOver (.object "PorchHours$Houses") ∈ lw_tbl := List.mem_of_getElem? (i := 431) (by decide +kernel)
theorem start_K {s : State} {a : Array Value} (ht : ∀ w ∈ lw_tbl, w.before a s = true) : ∃ (D : va_G) (cA : Nat → ClassId), ∀ aX ks, va_K D vwCl (tyl (D, cA, aX, ks)) s := by
  have hts : ∀ w ∈ tbl, w.before a s = true := fun w hw => ht w (List.mem_filter.mp hw).1
  obtain ⟨dC, dI, hc⟩ := start_cls hts
  obtain ⟨c0, h0, g0⟩ := start_arr (hts _ q_310)
  obtain ⟨c1, h1, g1⟩ := start_arr (hts _ q_201)
  obtain ⟨c2, h2, g2⟩ := start_arr (hts _ q_622)
  obtain ⟨c3, h3, g3⟩ := start_obj (ht _ lw_over)
  refine ⟨(dC, dI), fun k => match k with | 0 => c0 | 1 => c1 | 2 => c2 | _ => c3, fun aX ks => ⟨hc, ?_⟩⟩
  intro k q hq
  match k, hq with
  | 0, hq => cases hq; exact ⟨h0, g0⟩
  | 1, hq => cases hq; exact ⟨h1, g1⟩
  | 2, hq => cases hq; exact ⟨h2, g2⟩
  | 3, hq => cases hq; exact ⟨h3, g3⟩
  | k + 4, hq => simp [tyl] at hq
def strK : List Nat := [70, 76, 78, 80, 82, 84, 86, 88, 90, 91, 93, 95, 97, 99, 101, 103, 105, 107, 112, 114, 116, 118, 120, 122, 124, 126, 128, 130]
def tmS (i : Nat) : Term := Term.string "PorchHours$Tokens" (strK.getD i 0)
def lw_flat : List Cond := flatC (Jvm.Cond.and given_1 narrow_1)
