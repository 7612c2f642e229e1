/-! TEXT: conditions can be run -/
def nb : List Int → Nat
  | [] => 0
  | x :: S => nb S + if x = 264 ∨ x = 265 then 1 else 0
theorem nb_le : ∀ {S : List Int}, nb S ≤ S.length := by
  intro S
  induction S with
  | nil => exact Nat.le_refl _
  | cons x S ih => unfold nb; rw [List.length_cons]; split <;> omega
def ones (n : Nat) : List Nat := List.replicate n 1
theorem ones_s {n : Nat} : ones (n + 1) = 1 :: ones n := rfl
theorem popE_chk {p : Int} (hp : 41 ≤ p) : ∀ {S : List Int}, VS S → chkL (popE p S) (ones (nb S + 1)) = some (ones (nb (popS p S) + 1)) := by
  intro S
  induction S with
  | nil => intro _; rfl
  | cons x S ih =>
    intro hv
    rw [popE_c, popS_c]
    by_cases g : p ≤ x
    · rw [if_pos g, if_pos g]
      have a := ih hv.1
      have b := hv.2
      have nx : nb (x :: S) = nb S + if x = 264 ∨ x = 265 then 1 else 0 := rfl
      rw [nx]
      rw [chkL]
      by_cases n9 : x = 266
      · rw [if_neg (by omega), ones_s]
        have e : stp (sgk x, (0 : Int)).1 (sgk x, (0 : Int)).2 (1 :: ones (nb S)) = some (1 :: ones (nb S)) := by rw [n9]; rfl
        rw [e]
        exact a
      · rw [if_pos (by omega), ones_s, ones_s]
        have e : stp (sgk x, (0 : Int)).1 (sgk x, (0 : Int)).2 (1 :: 1 :: ones (nb S)) = some (1 :: ones (nb S)) := by
          have q : x = 265 ∨ x = 264 := by omega
          rcases q with q | q <;> rw [q] <;> rfl
        rw [e]
        exact a
    · rw [if_neg g, if_neg g]; rfl
theorem pC_chk : ∀ (f : Nat) (b : Bool) (S : List Int) (L : List Tk) (a : Cd) (L' : List Tk) (a' : Cd), VS S → opn S ≤ 8 → TV L → pC f b S L a = .inr (L', a') → TV L' ∧ ∃ em, a' = a ++ em ∧ chkL em (ones (nb S + if b then 0 else 1)) = some [1] := by
  intro f
  induction f with
  | zero =>
    intro b S L a L' a' _ _ _ h
    cases b <;> cases L <;> cases h
  | succ f ih =>
    intro b S L a L' a' hv ho tv h
    cases L with
    | nil => cases b <;> cases h
    | cons t M =>
    have tvM : TV M := fun q hq => tv q (List.mem_cons_of_mem _ hq)
    have l26 := hv.len26 ho
    have nl := nb_le (S := S)
    cases b with
    | true =>
      rw [pC_t] at h
      by_cases m : t.1 = 40 ∨ t.1 = 266
      · rw [if_pos m] at h
        by_cases o8 : opn S = 8
        · rw [if_pos o8] at h; cases h
        · rw [if_neg o8] at h
          have eo : opn (t.1 :: S) = opn S + 1 := by
            show opn S + (if t.1 = 40 ∨ t.1 = 266 then 1 else 0) = _
            rw [if_pos m]
          have en : nb (t.1 :: S) = nb S := by
            show nb S + (if t.1 = 264 ∨ t.1 = 265 then 1 else 0) = _
            rw [if_neg (by omega)]; rfl
          obtain ⟨x, em, y, z⟩ := ih true (t.1 :: S) M a L' a' ⟨hv, by omega⟩ (by omega) tvM h
          rw [en] at z
          exact ⟨x, em, y, z⟩
      · rw [if_neg m] at h
        have ch := fun L1 a1 => pC0_chk (L := t :: M) (L' := L1) (a := a) (a' := a1) tv
        generalize pC0 (t :: M) a = R at *
        match R, h, ch with
        | .inl x, h, _ => cases h
        | .inr (L1, a1), h, ch =>
          obtain ⟨tv1, em1, e1, c1⟩ := ch _ _ rfl
          obtain ⟨x, em, y, z⟩ := ih false (popS 266 S) L1 _ L' a' hv.pop (by have := pop_opn (p := 266) (S := S); omega) tv1 h
          refine ⟨x, em1 ++ popE 266 S ++ em, by rw [y, e1, List.append_assoc, List.append_assoc, List.append_assoc], ?_⟩
          have c2 := c1 (ones (nb S)) (by unfold ones; rw [List.length_replicate]; omega)
          rw [List.append_assoc]
          show chkL _ (ones (nb S)) = _
          rw [chkL_app c2, ← ones_s, chkL_app (popE_chk (by decide) hv)]
          exact z
    | false =>
      rw [pC_f] at h
      by_cases m : t.1 = 265 ∨ t.1 = 264
      · rw [if_pos m] at h
        have ph := pop_hd (p := t.1) (by omega) (S := S)
        have vpo : VS (t.1 :: popS t.1 S) := by
          refine ⟨hv.pop, ?_⟩
          have q := (hv.pop (p := t.1)).hd
          omega
        have eo : opn (t.1 :: popS t.1 S) = opn (popS t.1 S) := by
          show opn (popS t.1 S) + (if t.1 = 40 ∨ t.1 = 266 then 1 else 0) = _
          rw [if_neg (by omega)]; omega
        have en : nb (t.1 :: popS t.1 S) = nb (popS t.1 S) + 1 := by
          show nb (popS t.1 S) + (if t.1 = 264 ∨ t.1 = 265 then 1 else 0) = _
          rw [if_pos (by omega)]
        obtain ⟨x, em, y, z⟩ := ih true _ M _ L' a' vpo (by have := pop_opn (p := t.1) (S := S); omega) tvM h
        refine ⟨x, popE t.1 S ++ em, by rw [y, List.append_assoc], ?_⟩
        show chkL _ (ones (nb S + 1)) = _
        rw [chkL_app (popE_chk (by omega) hv)]
        rw [en] at z
        exact z
      · rw [if_neg m] at h
        have pc := popE_chk (p := 264) (by decide) hv
        have pv := hv.pop (p := 264)
        have po := pop_opn (p := 264) (S := S)
        have ph := pop_hd (p := 264) (by decide) (S := S)
        generalize popE 264 S = E1 at *
        generalize popS 264 S = S1 at *
        match S1, h, pc, pv, po, ph with
        | [], h, pc, _, _, _ =>
          have h : (if t.1 = 41 then (.inl (1, t :: M) : Re) else .inr (t :: M, a ++ E1)) = .inr (L', a') := h
          by_cases m1 : t.1 = 41
          · rw [if_pos m1] at h; cases h
          · rw [if_neg m1] at h
            cases h
            exact ⟨tv, E1, rfl, pc⟩
        | y :: S2, h, pc, pv, po, ph =>
          have h : (if t.1 = 41 then pC f false (popS 266 S2) M (a ++ E1 ++ popE 266 S2) else .inl (1, t :: M)) = .inr (L', a') := h
          by_cases m1 : t.1 = 41
          · rw [if_pos m1] at h
            have eo : opn (y :: S2) = opn S2 + if y = 40 ∨ y = 266 then 1 else 0 := rfl
            have o2 : opn S2 ≤ 8 := by rw [eo] at po; split at po <;> omega
            obtain ⟨x, em, e, z⟩ := ih false _ M _ L' a' (pv.1.pop) (by have := pop_opn (p := 266) (S := S2); omega) tvM h
            have y4 : y = 40 := by
              have q := pv.2
              have b : y < 264 := ph
              omega
            have en : nb (y :: S2) = nb S2 := by
              show nb S2 + (if y = 264 ∨ y = 265 then 1 else 0) = _
              rw [if_neg (by omega)]; rfl
            rw [en] at pc
            refine ⟨x, E1 ++ popE 266 S2 ++ em, by rw [e, List.append_assoc, List.append_assoc, List.append_assoc], ?_⟩
            rw [List.append_assoc]
            show chkL _ (ones (nb S + 1)) = _
            rw [chkL_app pc, chkL_app (popE_chk (by decide) pv.1)]
            exact z
          · rw [if_neg m1] at h; cases h
