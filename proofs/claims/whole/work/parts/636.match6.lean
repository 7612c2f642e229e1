/-! MATCHED: the next order -/
def l1P (P : Nat → Nat) : Nat → Option Nat
  | 0 => none
  | d + 1 => if P (d + 1) < P d then l1P P d else some d
def l2P (P : Nat → Nat) (i : Nat) : Nat → Nat
  | 0 => 0
  | d + 1 => if P d < P i then l2P P i d else d
def swP (P : Nat → Nat) (a b j : Nat) : Nat := if j = b then P a else if j = a then P b else P j
def l3P : Nat → (Nat → Nat) → Nat → Nat → Nat → Nat
  | 0, P, _, _ => P
  | f + 1, P, a, b => if a < b then l3P f (swP P a b) (a + 1) (b - 1) else P
def npP (P : Nat → Nat) : Option (Nat → Nat) := match l1P P 4 with
  | none => none
  | some i => some (l3P 3 (swP P i (l2P P i 5)) (i + 1) 4)
def oP (τ : St) (P : Nat → Nat) : Prop := ∀ i : Nat, i < 5 → τ 28 i = P i ∧ P i < 5
theorem l1P_lt {P : Nat → Nat} {i : Nat} : ∀ {d : Nat}, l1P P d = some i → i < d := by
  intro d
  induction d with
  | zero => intro h; cases h
  | succ d ih =>
    intro h
    rw [l1P] at h
    split at h
    · have := ih h
      omega
    · cases h
      exact Nat.lt_succ_self _
theorem oP_sw {τ : St} {P : Nat → Nat} {a b : Nat} {x y : Int} (h : oP τ P) (ha : a < 5) (hb : b < 5) (hx : x = P b) (hy : y = P a) : oP (up (up τ 28 (a : Int) x) 28 (b : Int) y) (swP P a b) := by
  intro i hi
  unfold swP
  have q := h i hi
  have qa := (h a ha).2
  have qb := (h b hb).2
  simp only [up_g, true_and, and_true, false_and, and_false, Nat.reduceEqDiff, if_false, if_true]
  by_cases e : i = b
  · rw [if_pos (by omega), if_pos e]
    exact ⟨hy, qa⟩
  · rw [if_neg (by omega), if_neg e]
    by_cases e2 : i = a
    · rw [if_pos (by omega), if_pos e2]
      exact ⟨hx, qb⟩
    · rw [if_neg (by omega), if_neg e2]
      exact q
theorem m_next {τ : St} {P : Nat → Nat} (h : oP τ P) : Ok (fX12_goesToNextOrder 5 τ) fun r τ' => Fm [28] [] τ τ' ∧ match npP P with
    | none => r = 0
    | some Q => r = 1 ∧ oP τ' Q := by
  unfold fX12_goesToNextOrder
  rw [lb_eq, show w32 (5 - 2) = 3 by decide, show w32 (5 - 1) = 4 by decide, ko_bnd]
  refine ok_mono (P := fun r t => τ = t ∧ match l1P P 4 with
    | none => r = -1
    | some i => r = (i : Int)) ?_ ?_
  · refine while_ok (fun x t => τ = t ∧ ∃ d : Nat, x = (d : Int) - 1 ∧ d ≤ 4 ∧ l1P P d = l1P P 4) (fun x _ => (x + 1).toNat) ⟨rfl, 4, rfl, Nat.le_refl 4, rfl⟩ (by show ((3 : Int) + 1).toNat < _; decide) ?_
    rintro x _ ⟨rfl, d, rfl, hd, e⟩
    cases d with
    | zero =>
      rw [ko_t (by decide), ko_some, ko_jr, ← e]
      exact ⟨rfl, rfl⟩
    | succ d =>
      have q1 := h d (by omega)
      have q2 := h (d + 1) (by omega)
      have e1 : ((d + 1 : Nat) : Int) - 1 = (d : Int) := by omega
      have wn := Hd.m (w32_nat (n := d) (by omega))
      have wp := Hd.m (show w32 ((d : Int) - 1) = (d : Int) - 1 from w32_sm (by omega))
      rw [l1P] at e
      rw [e1, ko_f (by omega), lod_eq (by omega), wn.o, lod_eq (by omega), q1.1, q2.1]
      by_cases c : P (d + 1) < P d
      · rw [if_pos c] at e
        rw [ko_t (by omega), ko_lb, ko_some, ko_jl, wp.o]
        exact ⟨⟨rfl, d, rfl, by omega, e⟩, by omega⟩
      · rw [if_neg c] at e
        rw [ko_f (by omega), ko_some, ko_jr, ← e]
        exact ⟨rfl, rfl⟩
  rintro i _ ⟨rfl, hi⟩
  unfold npP
  cases hl : l1P P 4 with
  | none =>
    rw [hl] at hi
    have hi : i = -1 := hi
    rw [hi, ko_t (by decide), ko_some]
    exact ⟨Fm.rf, rfl⟩
  | some j =>
    rw [hl] at hi
    have hi : i = (j : Int) := hi
    subst hi
    have hj := l1P_lt hl
    rw [ko_f (by omega), lb_eq, ko_bnd]
    refine ok_mono (P := fun r t => τ = t ∧ r = ((l2P P j 5 : Nat) : Int) ∧ l2P P j 5 < 5) ?_ ?_
    · refine while_ok (fun x t => τ = t ∧ ∃ d : Nat, x = (d : Int) - 1 ∧ d ≤ 5 ∧ j < d ∧ l2P P j d = l2P P j 5) (fun x _ => (x + 1).toNat) ⟨rfl, 5, rfl, Nat.le_refl 5, by omega, rfl⟩ (by show ((4 : Int) + 1).toNat < _; decide) ?_
      rintro x _ ⟨rfl, d, rfl, hd, hjd, e⟩
      obtain ⟨d, rfl⟩ : ∃ k, d = k + 1 := ⟨d - 1, by omega⟩
      have q1 := h d (by omega)
      have q2 := h j (by omega)
      have e1 : ((d + 1 : Nat) : Int) - 1 = (d : Int) := by omega
      have wp := Hd.m (show w32 ((d : Int) - 1) = (d : Int) - 1 from w32_sm (by omega))
      rw [l2P] at e
      rw [e1, lod_eq (by omega), lod_eq (by omega), q1.1, q2.1]
      by_cases c : P d < P j
      · rw [if_pos c] at e
        have ne : d ≠ j := fun z => by rw [z] at c; omega
        rw [ko_t (by omega), ko_lb, ko_some, ko_jl, wp.o]
        exact ⟨⟨rfl, d, rfl, by omega, by omega, e⟩, by omega⟩
      · rw [if_neg c] at e
        rw [ko_f (by omega), ko_some, ko_jr, ← e]
        exact ⟨rfl, rfl, by omega⟩
    rintro k' _ ⟨rfl, rfl, hk⟩
    generalize hkk : l2P P j 5 = k at hk ⊢
    have qj := h j (by omega)
    have qk := h k hk
    have wj := Hd.m (w32_nat (n := j) (by omega))
    rw [lod_eq (by omega), lod_eq (by omega), qj.1, qk.1, sto_eq (by omega), sto_eq (by omega), lb_eq, wj.o, lb_eq, ko_bnd]
    have s0 := oP_sw (a := j) (b := k) h (by omega) hk rfl rfl
    have f0 : Fm [28] [] τ (up (up τ 28 (j : Int) ((P k : Nat) : Int)) 28 (k : Int) ((P j : Nat) : Int)) := (Fm.rf.up (by decide) (by decide)).up (by decide) (by decide)
    generalize up (up τ 28 (j : Int) ((P k : Nat) : Int)) 28 (k : Int) ((P j : Nat) : Int) = τ1 at *
    refine while_ok (fun x t => Fm [28] [] τ t ∧ ∃ (d a b : Nat) (Q : Nat → Nat), x = ((b : Int), (a : Int)) ∧ oP t Q ∧ a ≤ 5 ∧ b < 5 ∧ b ≤ a + 2 * d ∧ l3P d Q a b = l3P 3 (swP P j k) (j + 1) 4) (fun x _ => (x.1 - x.2).toNat) ⟨f0, 3, j + 1, 4, _, rfl, s0, by omega, by decide, by omega, rfl⟩ (by show ((4 : Int) - ((j + 1 : Nat) : Int)).toNat < _; omega) ?_
    rintro x t ⟨ft, d, a, b, Q, rfl, hQ, ha, hb, hd, e⟩
    dsimp only
    by_cases c : (a : Int) < b
    · obtain ⟨d, rfl⟩ : ∃ k, d = k + 1 := ⟨d - 1, by omega⟩
      have qa := hQ a (by omega)
      have qb := hQ b hb
      have wa := Hd.m (w32_nat (n := a) (by omega))
      have wb := Hd.m (show w32 ((b : Int) - 1) = ((b - 1 : Nat) : Int) by rw [w32_sm (by omega)]; omega)
      rw [l3P, if_pos (by omega)] at e
      rw [ko_t c, lod_eq (by omega), lod_eq (by omega), qa.1, qb.1, sto_eq (by omega), sto_eq (by omega), ko_lb, wa.o, wb.o, ko_some, ko_jl]
      exact ⟨⟨(ft.up (by decide) (by decide)).up (by decide) (by decide), d, a + 1, b - 1, _, rfl, oP_sw hQ (by omega) hb rfl rfl, by omega, by omega, by omega, e⟩, by show (((b - 1 : Nat) : Int) - ((a + 1 : Nat) : Int)).toNat < ((b : Int) - (a : Int)).toNat; omega⟩
    · have e2 : l3P d Q a b = Q := by
        cases d with
        | zero => rfl
        | succ d => rw [l3P, if_neg (by omega)]
      rw [ko_f c, ko_some, ko_jr, ko_some, hkk, ← e, e2]
      exact ⟨ft, rfl, hQ⟩
/-! MATCHED: they are counted -/
def oL (l : List Nat) (i : Nat) : Nat := l.getD i 0
theorem LP_next : ∀ t : Nat, t < 119 → ∀ j : Nat, j < 5 → (npP (oL (LPl.getD t []))).map (fun Q => Q j) = some (oL (LPl.getD (t + 1) []) j) := by decide +kernel
theorem LP_last : (npP (oL (LPl.getD 119 []))).isNone = true := by decide +kernel
theorem LP_bd : ∀ t : Nat, t < 120 → ∀ j : Nat, j < 5 → oL (LPl.getD t []) j < 5 := by decide +kernel
theorem LP_len : LPl.length = 120 := by decide +kernel
def CPl : List (List Nat) := (List.range 120).map fun n => [puP n 0, puP n 1, puP n 2, puP n 3, puP n 4]
theorem CP_perm : CPl.isPerm LPl = true := by decide +kernel
theorem CP_len : CPl.length = 120 := by decide +kernel
theorem CP_at : ∀ n : Nat, n < 120 → CPl.getD n [] = [puP n 0, puP n 1, puP n 2, puP n 3, puP n 4] := by decide +kernel
def sL (g : List Nat → Int) : List (List Nat) → Int
  | [] => 0
  | l :: L => g l + sL g L
theorem sL_perm {g : List Nat → Int} {L L' : List (List Nat)} (h : L.Perm L') : sL g L = sL g L' := by
  induction h with
  | nil => rfl
  | cons x _ ih => rw [sL, sL, ih]
  | swap x y l =>
    rw [sL, sL, sL, sL]
    omega
  | trans _ _ ih1 ih2 => rw [ih1, ih2]
theorem sL_smI {g : List Nat → Int} : ∀ {L : List (List Nat)}, smI (fun t => g (L.getD t [])) L.length = sL g L := by
  intro L
  induction L with
  | nil => rfl
  | cons l L ih =>
    rw [List.length_cons, Nat.add_comm, smI_add, sL, ← ih]
    congr 1
    · rw [smI, smI, Int.zero_add]
      rfl
    · exact smI_cong fun i _ => by rw [Nat.add_comm]; rfl
theorem count_eq (D : Int → Int) : smI (fun n => gS D (puP n)) 120 = smI (fun t => gS D (oL (LPl.getD t []))) 120 := by
  have e1 : smI (fun n => gS D (puP n)) 120 = smI (fun n => gS D (oL (CPl.getD n []))) CPl.length := by
    rw [CP_len]
    refine smI_cong fun n hn => gS_cong fun i hi => ?_
    rw [CP_at n hn]
    exact five (P := fun i => puP n i = oL [puP n 0, puP n 1, puP n 2, puP n 3, puP n 4] i) rfl rfl rfl rfl rfl i hi
  have e2 := sL_smI (g := fun l => gS D (oL l)) (L := CPl)
  have e3 := sL_smI (g := fun l => gS D (oL l)) (L := LPl)
  rw [LP_len] at e3
  rw [e1, e2, e3, sL_perm (List.isPerm_iff.mp CP_perm)]
