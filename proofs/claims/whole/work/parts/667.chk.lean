/-! TEXT: the code that is written can be run -/
def chkL : Cd → List Nat → Option (List Nat)
  | [], S => some S
  | p :: c, S => match stp p.1 p.2 S with
    | none => none
    | some S' => chkL c S'
theorem chkL_app : ∀ {a b : Cd} {S T : List Nat}, chkL a S = some T → chkL (a ++ b) S = chkL b T := by
  intro a
  induction a with
  | nil => intro b S T h; cases h; rfl
  | cons p a ih =>
    intro b S T h
    unfold chkL at h
    show (match stp p.1 p.2 S with | none => none | some S' => chkL (a ++ b) S') = _
    cases e : stp p.1 p.2 S with
    | none => rw [e] at h; cases h
    | some S' =>
      rw [e] at h
      exact ih h
theorem chkL_1 {p : Int × Int} {S T : List Nat} (h : stp p.1 p.2 S = some T) : chkL [p] S = some T := by
  unfold chkL
  rw [h]; rfl
def TV (L : List Tk) : Prop := ∀ t, t ∈ L → t.1 = 257 → 0 ≤ t.2.1 ∧ t.2.1 ≤ 9999
def emL (k : Int) : Cd := if k = -1 then [] else [(sgn k, 0)]
theorem emi_L {k : Int} {a : Cd} : emi k a = a ++ emL k := by
  unfold emi emL
  split
  · rw [List.append_nil]
  · rfl
def pv (k : Int) (y : Nat) (Q : List Nat) : List Nat := if k = -1 then Q else y :: Q
theorem pv_len {k : Int} {y : Nat} {Q : List Nat} : (pv k y Q).length ≤ Q.length + 1 := by
  unfold pv
  split
  · omega
  · rw [List.length_cons]; omega
theorem op_chk {t : Tk} {po : Int} {y : Nat} {W : List Nat} (f : flt t po = 0) (v : t.1 = 257 → 0 ≤ t.2.1 ∧ t.2.1 ≤ 9999) (hp : po = -1 ∨ po = 42 ∨ po = 47) (hy : y ≠ 1) (hW : W.length ≤ 32) : ∃ w, w ≠ 1 ∧ chkL (opnd t :: emL po) (pv po y W) = some (w :: W) := by
  have lp := pv_len (k := po) (y := y) (Q := W)
  have h1 : ∃ u, u ≠ 1 ∧ (po = 47 → u = 2) ∧ stp (opnd t).1 (opnd t).2 (pv po y W) = some (u :: pv po y W) := by
    unfold flt at f
    unfold opnd
    by_cases k : t.1 = 257
    · have b := v k
      rw [if_pos k] at f
      rw [if_pos k]
      refine ⟨if t.2.1 = 0 then 0 else 2, ?_, fun e => ?_, ?_⟩
      · split <;> decide
      · by_cases z : t.2.1 = 0
        · rw [if_pos ⟨e, z⟩] at f; cases f
        · rw [if_neg z]
      · show stp 0 t.2.1 _ = _
        unfold stp
        rw [if_pos rfl, if_pos ⟨b.1, b.2, by omega⟩]
    · rw [if_neg k] at f
      rw [if_neg k]
      by_cases g : po ≠ 47 ∧ 270 ≤ t.1 ∧ t.1 ≤ 279
      · refine ⟨0, by decide, fun e => absurd e g.1, ?_⟩
        show stp 1 (t.1 - 270) _ = _
        unfold stp
        rw [if_neg (by decide), if_pos rfl, if_pos ⟨by omega, by omega, by omega⟩]
      · rw [if_neg g] at f; cases f
  obtain ⟨u, u1, u2, hu⟩ := h1
  have e0 : chkL (opnd t :: emL po) (pv po y W) = chkL (emL po) (u :: pv po y W) := by
    rw [chkL, hu]
  rw [e0]
  rcases hp with rfl | rfl | rfl
  · exact ⟨u, u1, rfl⟩
  · refine ⟨0, by decide, ?_⟩
    show chkL [(4, 0)] (u :: y :: W) = _
    refine chkL_1 ?_
    show stp 4 0 (u :: y :: W) = _
    unfold stp
    simp only [show ¬ (4 : Int) = 0 by decide, show ¬ (4 : Int) = 1 by decide, show ¬ (4 : Int) = 9 by decide, if_false]
    rw [if_pos (by decide), if_pos ⟨hy, u1⟩]
  · refine ⟨0, by decide, ?_⟩
    show chkL [(5, 0)] (u :: y :: W) = _
    refine chkL_1 ?_
    show stp 5 0 (u :: y :: W) = _
    unfold stp
    simp only [show ¬ (5 : Int) = 0 by decide, show ¬ (5 : Int) = 1 by decide, show ¬ (5 : Int) = 9 by decide, if_false]
    rw [if_neg (by decide), if_pos trivial, if_pos ⟨hy, u2 rfl⟩]
theorem so_chk {so : Int} {w z : Nat} {Q : List Nat} (hs : so = -1 ∨ so = 43 ∨ so = 45) (hw : w ≠ 1) (hz : z ≠ 1) : ∃ x, x ≠ 1 ∧ chkL (emL so) (w :: pv so z Q) = some (x :: Q) := by
  rcases hs with rfl | rfl | rfl
  · exact ⟨w, hw, rfl⟩
  · refine ⟨0, by decide, ?_⟩
    show chkL [(2, 0)] (w :: z :: Q) = _
    refine chkL_1 ?_
    show stp 2 0 (w :: z :: Q) = _
    unfold stp
    simp only [show ¬ (2 : Int) = 0 by decide, show ¬ (2 : Int) = 1 by decide, show ¬ (2 : Int) = 9 by decide, if_false]
    rw [if_pos (by decide), if_pos ⟨hz, hw⟩]
  · refine ⟨0, by decide, ?_⟩
    show chkL [(3, 0)] (w :: z :: Q) = _
    refine chkL_1 ?_
    show stp 3 0 (w :: z :: Q) = _
    unfold stp
    simp only [show ¬ (3 : Int) = 0 by decide, show ¬ (3 : Int) = 1 by decide, show ¬ (3 : Int) = 9 by decide, if_false]
    rw [if_pos (by decide), if_pos ⟨hz, hw⟩]
theorem pS_chk : ∀ (k : Nat) (L : List Tk), L.length ≤ k → TV L → ∀ so po a L' a', (so = -1 ∨ so = 43 ∨ so = 45) → (po = -1 ∨ po = 42 ∨ po = 47) → pS L so po a = .inr (L', a') → TV L' ∧ ∃ em, a' = a ++ em ∧ ∀ y z Q, y ≠ 1 → z ≠ 1 → Q.length ≤ 31 → ∃ x, x ≠ 1 ∧ chkL em (pv po y (pv so z Q)) = some (x :: Q) := by
  intro k
  induction k with
  | zero =>
    intro L hL _ so po a L' a' _ _ h
    cases L with
    | nil => cases h
    | cons t L => simp at hL
  | succ k ih =>
    intro L hL tv so po a L' a' hso hpo h
    match L, hL with
    | [], _ => cases h
    | [t], _ => cases h
    | t :: u :: M, hL =>
      simp only [List.length_cons] at hL
      have tvM : TV M := fun q hq => tv q (List.mem_cons_of_mem _ (List.mem_cons_of_mem _ hq))
      have tvU : TV (u :: M) := fun q hq => tv q (List.mem_cons_of_mem _ hq)
      rw [pS] at h
      by_cases f : flt t po ≠ 0
      · rw [if_pos f] at h; cases h
      · rw [if_neg f] at h
        have f0 : flt t po = 0 := Classical.not_not.mp f
        have v := tv t List.mem_cons_self
        have e1 : emi po (a ++ [opnd t]) = a ++ (opnd t :: emL po) := by rw [emi_L, List.append_assoc]; rfl
        rw [e1] at h
        by_cases m : u.1 = 42 ∨ u.1 = 47
        · rw [if_pos m] at h
          obtain ⟨tv', em, h1, h2⟩ := ih M (by omega) tvM so u.1 _ L' a' hso (Or.inr m) h
          refine ⟨tv', opnd t :: emL po ++ em, by rw [h1, List.append_assoc], fun y z Q hy hz hQ => ?_⟩
          have lq := pv_len (k := so) (y := z) (Q := Q)
          obtain ⟨w, w1, hw⟩ := op_chk f0 v hpo hy (W := pv so z Q) (by omega)
          rw [chkL_app hw]
          have := h2 w z Q w1 hz hQ
          unfold pv at this
          rw [if_neg (show ¬ u.1 = -1 by omega)] at this
          exact this
        · rw [if_neg m] at h
          have e2 : emi so (a ++ (opnd t :: emL po)) = a ++ (opnd t :: emL po ++ emL so) := by rw [emi_L, List.append_assoc]
          rw [e2] at h
          have key : ∀ y z Q, y ≠ 1 → z ≠ 1 → Q.length ≤ 31 → ∃ x, x ≠ 1 ∧ chkL (opnd t :: emL po ++ emL so) (pv po y (pv so z Q)) = some (x :: Q) := by
            intro y z Q hy hz hQ
            have lq := pv_len (k := so) (y := z) (Q := Q)
            obtain ⟨w, w1, hw⟩ := op_chk f0 v hpo hy (W := pv so z Q) (by omega)
            rw [chkL_app hw]
            exact so_chk hso w1 hz
          by_cases p : u.1 = 43 ∨ u.1 = 45
          · rw [if_pos p] at h
            obtain ⟨tv', em, h1, h2⟩ := ih M (by omega) tvM u.1 (-1) _ L' a' (Or.inr p) (Or.inl rfl) h
            refine ⟨tv', opnd t :: emL po ++ emL so ++ em, by rw [h1, List.append_assoc], fun y z Q hy hz hQ => ?_⟩
            obtain ⟨x, x1, hx⟩ := key y z Q hy hz hQ
            rw [chkL_app hx]
            have := h2 0 x Q (by decide) x1 hQ
            unfold pv at this
            rw [if_pos rfl, if_neg (show ¬ u.1 = -1 by omega)] at this
            exact this
          · rw [if_neg p] at h
            cases h
            exact ⟨tvU, _, rfl, key⟩
theorem pC0_chk {L L' : List Tk} {a a' : Cd} (tv : TV L) (h : pC0 L a = .inr (L', a')) : TV L' ∧ ∃ em, a' = a ++ em ∧ ∀ Q, Q.length ≤ 28 → chkL em Q = some (1 :: Q) := by
  unfold pC0 at h
  have ch := pS_chk _ L (Nat.le_refl _) tv (-1) (-1) a
  generalize pS L (-1) (-1) a = R at *
  match R, h, ch with
  | .inl x, h, _ => cases h
  | .inr ([], a1), h, _ => cases h
  | .inr (u :: M, a1), h, ch =>
    obtain ⟨tv1, em, e1, c1⟩ := ch _ _ (Or.inl rfl) (Or.inl rfl) rfl
    rw [cm2_inr] at h
    by_cases m : isCm u.1
    · rw [if_pos m] at h
      have ch2 := pS_chk _ M (Nat.le_refl _) (fun q hq => tv1 q (List.mem_cons_of_mem _ hq)) (-1) (-1) a1
      generalize pS M (-1) (-1) a1 = R2 at *
      match R2, h, ch2 with
      | .inl x, h, _ => cases h
      | .inr (L2, a2), h, ch2 =>
        obtain ⟨tv2, em2, e2, c2⟩ := ch2 _ _ (Or.inl rfl) (Or.inl rfl) rfl
        cases h
        refine ⟨tv2, em ++ em2 ++ [(sgn u.1, 0)], by rw [e2, e1, List.append_assoc, List.append_assoc, List.append_assoc], fun Q hQ => ?_⟩
        obtain ⟨x, x1, hx⟩ := c1 0 0 Q (by decide) (by decide) (by omega)
        obtain ⟨z, z1, hz⟩ := c2 0 0 (x :: Q) (by decide) (by decide) (by rw [List.length_cons]; omega)
        have hx : chkL em Q = some (x :: Q) := hx
        have hz : chkL em2 (x :: Q) = some (z :: x :: Q) := hz
        rw [List.append_assoc, chkL_app hx, chkL_app hz]
        refine chkL_1 ?_
        have o : 6 ≤ sgn u.1 ∧ sgn u.1 ≤ 8 := by rcases m with q | q | q <;> rw [q] <;> decide
        show stp (sgn u.1) 0 (z :: x :: Q) = _
        unfold stp
        rw [if_neg (by omega), if_neg (by omega)]
        show (if sgn u.1 = 9 then _ else (if 2 ≤ sgn u.1 ∧ sgn u.1 ≤ 4 then _ else if sgn u.1 = 5 then _ else if 6 ≤ sgn u.1 ∧ sgn u.1 ≤ 8 then (if x ≠ 1 ∧ z ≠ 1 then some (1 :: Q) else none) else _)) = _
        rw [if_neg (by omega), if_neg (by omega), if_neg (by omega), if_pos o, if_pos ⟨x1, z1⟩]
    · rw [if_neg m] at h; cases h
