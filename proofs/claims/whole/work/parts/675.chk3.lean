/-! TEXT: code in rows, code in a list -/
theorem chk_L {op ar : Int → Int} : ∀ {c : Cd} {i : Int} {S : List Nat}, (∀ (j : Nat) (p : Int × Int), c[j]? = some p → op (i + j) = p.1 ∧ ar (i + j) = p.2) → chk op ar c.length i S = chkL c S := by
  intro c
  induction c with
  | nil => intro i S _; rfl
  | cons p c ih =>
    intro i S h
    have a := h 0 p rfl
    rw [show i + ((0 : Nat) : Int) = i by omega] at a
    rw [List.length_cons, chk, a.1, a.2, chkL]
    cases stp p.1 p.2 S with
    | none => rfl
    | some S' =>
      refine ih fun j q hj => ?_
      have b := h (j + 1) q (by rw [List.getElem?_cons_succ]; exact hj)
      rw [show i + 1 + (j : Int) = i + ((j + 1 : Nat) : Int) by omega]
      exact b
