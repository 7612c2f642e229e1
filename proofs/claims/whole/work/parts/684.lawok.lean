/-! TEXT: the law's lines that were read can be run -/
theorem TL.tv {C : Int → Int} {n : Int} (c : CC C n) : ∀ {L : List Tk} {p : Int}, 0 ≤ p → p ≤ n → TL C p L → TV L := by
  intro L
  induction L with
  | nil => intro p _ _ h; exact False.elim h
  | cons t L ih =>
    intro p p0 p1 h
    obtain ⟨s, s0, s1⟩ := h
    rcases s1 with ⟨_, t1, _, rfl⟩ | ⟨c1, e, he, ht, h⟩
    · intro t' ht' k
      rw [List.mem_singleton] at ht'
      rw [ht', t1] at k
      cases k
    · have sn := in_n c c1
      have b := s0.1
      have be := he.bd c sn
      have r := ih (by omega) be.2 h
      intro t' ht' k
      rcases List.mem_cons.mp ht' with q | q
      · subst q
        obtain ⟨_, h2⟩ := ht
        by_cases d : isDg (C s)
        · rw [if_pos d] at h2
          by_cases g : e - s ≤ 4
          · rw [if_pos g] at h2
            rw [h2.2]
            unfold Ten at he
            rw [if_pos d] at he
            refine nv_le (by omega) fun j j0 j1 => ?_
            by_cases js : j = s
            · rw [js]; exact d
            · exact he.2.1 j (by omega) (by omega)
          · rw [if_neg g] at h2; omega
        · rw [if_neg d] at h2
          by_cases l : isLt (C s)
          · rw [if_pos l] at h2
            rcases h2 with ⟨w, w0, w1, w2⟩ | ⟨w2, _⟩
            · have := cw_ne w0; omega
            · omega
          · rw [if_neg l] at h2
            have := c.2.1 s (by omega) sn
            omega
      · exact r t' q k
/-- a line of the law whose code can be run -/
def LW (a : Cd) (l : Ln) : Prop := (260 ≤ l.1 ∧ l.1 ≤ 262) ∧ ∃ c1 c2 c3 c4 : Cd, a = c1 ++ (c2 ++ (c3 ++ c4)) ∧ l.2.1 = (c1.length : Int) ∧ l.2.2.1 = (c1.length : Int) + c2.length ∧ l.2.2.2 = (c1.length : Int) + c2.length + c3.length ∧ (∃ x, x ≠ 1 ∧ chkL c2 [] = some [x]) ∧ (c3 ≠ [] → chkL c3 [] = some [1])
theorem LW.app {a b : Cd} {l : Ln} (h : LW a l) : LW (a ++ b) l := by
  obtain ⟨h0, c1, c2, c3, c4, e, h1⟩ := h
  exact ⟨h0, c1, c2, c3, c4 ++ b, by rw [e, List.append_assoc, List.append_assoc, List.append_assoc], h1⟩
theorem pL1_ok {t : Tk} {M : List Tk} {acc : Cd} {ls : List Ln} {l : Ln} {M' : List Tk} {a : Cd} (tv : TV M) (h : pL1 t M acc ls = .inr (l, M', a)) : TV M' ∧ (∃ em, a = acc ++ em) ∧ LW a l := by
  unfold pL1 at h
  by_cases w : 260 ≤ t.1 ∧ t.1 ≤ 262
  · rw [if_neg (fun q => q w)] at h
    by_cases f : 16 ≤ ls.length
    · rw [if_pos f] at h; cases h
    · rw [if_neg f] at h
      unfold pLn at h
      have ch := pS_chk _ M (Nat.le_refl _) tv (-1) (-1) acc
      generalize pS M (-1) (-1) acc = R1 at *
      match R1, h, ch with
      | .inl x, h, _ => cases h
      | .inr ([], a1), h, _ => cases h
      | .inr (u :: M1, a1), h, ch =>
        obtain ⟨tv1, em, e1, k1⟩ := ch _ _ (Or.inl rfl) (Or.inl rfl) rfl
        obtain ⟨x, x1, hx⟩ := k1 0 0 [] (by decide) (by decide) (by decide)
        have hx : chkL em [] = some [x] := hx
        have h : lnE t.1 acc.length a1.length (cnd u M1 a1) = .inr (l, M', a) := h
        have fin : ∀ v M2 (a2 em2 : Cd), TV (v :: M2) → a2 = a1 ++ em2 → (em2 ≠ [] → chkL em2 [] = some [1]) → lnE t.1 acc.length a1.length (.inr (v :: M2, a2)) = .inr (l, M', a) → TV M' ∧ (∃ em, a = acc ++ em) ∧ LW a l := by
          intro v M2 a2 em2 tv2 e2 k2 h
          have h : (if v.1 = 59 then .inr ((t.1, (acc.length : Int), (a1.length : Int), (a2.length : Int)), M2, a2) else .inl (1, v :: M2) : Rl3) = .inr (l, M', a) := h
          by_cases m : v.1 = 59
          · rw [if_pos m] at h
            cases h
            refine ⟨fun q hq => tv2 q (List.mem_cons_of_mem _ hq), ⟨em ++ em2, by rw [e2, e1, List.append_assoc]⟩, w, acc, em, em2, [], by rw [e2, e1, List.append_nil, List.append_assoc], rfl, ?_, ?_, ⟨x, x1, hx⟩, k2⟩
            · show (a1.length : Int) = _
              rw [e1, List.length_append]; omega
            · show (a.length : Int) = _
              rw [e2, e1, List.length_append, List.length_append]; omega
          · rw [if_neg m] at h; cases h
        unfold cnd at h
        by_cases wh : u.1 = 263
        · rw [if_pos wh] at h
          have ch2 := fun L' a' => pC_chk M1.length true [] M1 a1 L' a' trivial (by decide) (fun q hq => tv1 q (List.mem_cons_of_mem _ hq))
          generalize pC M1.length true [] M1 a1 = R2 at *
          match R2, h, ch2 with
          | .inl x, h, _ => cases h
          | .inr ([], _), h, _ => cases h
          | .inr (v :: M2, a2), h, ch2 =>
            obtain ⟨tv2, em2, e2, k2⟩ := ch2 _ _ rfl
            exact fin v M2 a2 em2 tv2 e2 (fun _ => k2) h
        · rw [if_neg wh] at h
          exact fin u M1 a1 [] tv1 (by rw [List.append_nil]) (fun q => absurd rfl q) h
  · rw [if_pos w] at h; cases h
theorem pLs_ok : ∀ (f : Nat) (L : List Tk) (acc : Cd) (ls ls' : List Ln) (a' : Cd), TV L → (∀ l, l ∈ ls → LW acc l) → pLs f L acc ls = .inr (ls', a') → ∀ l, l ∈ ls' → LW a' l := by
  intro f
  induction f with
  | zero =>
    intro L acc ls ls' a' _ _ e
    cases L <;> cases e
  | succ f ih =>
    intro L acc ls ls' a' tv a e
    cases L with
    | nil => cases e
    | cons t M =>
      rw [pLs_c] at e
      by_cases u6 : t.1 = 256
      · rw [if_pos u6] at e; cases e; exact a
      · rw [if_neg u6] at e
        have hh := fun l M' a' => pL1_ok (t := t) (M := M) (acc := acc) (ls := ls) (l := l) (M' := M') (a := a') (fun q hq => tv q (List.mem_cons_of_mem _ hq))
        generalize pL1 t M acc ls = R at *
        match R, e, hh with
        | .inl x, e, _ => cases e
        | .inr (l, M', a2), e, hh =>
          obtain ⟨tv2, ⟨em, rfl⟩, lw⟩ := hh _ _ _ rfl
          refine ih M' _ (ls ++ [l]) ls' a' tv2 (fun z hz => ?_) e
          rcases List.mem_append.mp hz with q | q
          · exact (a z q).app
          · rw [List.mem_singleton.mp q]; exact lw
/-- the law, as it lies told, is what was read -/
theorem RLaw.new {σ V : St} {ls : List Ln} {a : Cd} (h : ∀ l, l ∈ ls → LW a l) (hx : σ 18 0 = 4 ∧ σ 20 0 = 1 ∧ σ 18 2 = ls.length ∧ σ 20 2 = a.length) (hl : ls.length ≤ 16) (ha : a.length ≤ 400) (v10 : V 10 0 = ls.length)
    (x19 : ∀ (j : Nat) (l : Ln), ls[j]? = some l → σ 19 ((j : Int) * 4) = l.1 ∧ σ 19 ((j : Int) * 4 + 1) = l.2.1 ∧ σ 19 ((j : Int) * 4 + 2) = l.2.2.1 ∧ σ 19 ((j : Int) * 4 + 3) = l.2.2.2)
    (vl : ∀ (j : Nat) (l : Ln), ls[j]? = some l → V 11 j = l.1 - 260 ∧ V 12 j = l.2.1 ∧ V 13 j = l.2.2.1 ∧ V 14 j = l.2.2.2)
    (x21 : ∀ (j : Nat) (p : Int × Int), a[j]? = some p → σ 21 j = enc p.1 p.2) (vc : ∀ (j : Nat) (p : Int × Int), a[j]? = some p → V 15 j = p.1 ∧ V 16 j = p.2) : RLaw σ 17 V := by
  obtain ⟨h0, h1, h2, h3⟩ := hx
  unfold RLaw
  simp only [Nat.reduceAdd]
  rw [v10, h3]
  refine ⟨⟨h0, h1, h2, by omega, by omega, by omega, by omega⟩, fun l l0 l1 => ?_, fun i i0 i1 => ?_⟩
  · obtain ⟨j, rfl⟩ : ∃ j : Nat, l = j := ⟨l.toNat, by omega⟩
    have hj : j < ls.length := by omega
    have ej : ls[j]? = some ls[j] := List.getElem?_eq_getElem hj
    obtain ⟨a1, a2, a3, a4⟩ := x19 j _ ej
    obtain ⟨b1, b2, b3, b4⟩ := vl j _ ej
    obtain ⟨⟨k0, k1⟩, c1, c2, c3, c4, ea, e1, e2, e3, q1, q2⟩ := h _ (List.getElem_mem hj)
    have la : a.length = c1.length + (c2.length + (c3.length + c4.length)) := by rw [ea, List.length_append, List.length_append, List.length_append]
    have at2 : ∀ (i : Nat) (p : Int × Int), c2[i]? = some p → V 15 ((c1.length : Int) + i) = p.1 ∧ V 16 ((c1.length : Int) + i) = p.2 := by
      intro i p hp
      have lt : i < c2.length := by
        by_cases g : i < c2.length
        · exact g
        · rw [List.getElem?_eq_none (by omega)] at hp; cases hp
      have := vc (c1.length + i) p (by rw [ea, List.getElem?_append_right (by omega), show c1.length + i - c1.length = i by omega, List.getElem?_append_left lt]; exact hp)
      rw [show (c1.length : Int) + (i : Int) = ((c1.length + i : Nat) : Int) by omega]
      exact this
    have at3 : ∀ (i : Nat) (p : Int × Int), c3[i]? = some p → V 15 ((c1.length : Int) + c2.length + i) = p.1 ∧ V 16 ((c1.length : Int) + c2.length + i) = p.2 := by
      intro i p hp
      have lt : i < c3.length := by
        by_cases g : i < c3.length
        · exact g
        · rw [List.getElem?_eq_none (by omega)] at hp; cases hp
      have := vc (c1.length + c2.length + i) p (by rw [ea, List.getElem?_append_right (by omega), show c1.length + c2.length + i - c1.length = c2.length + i by omega, List.getElem?_append_right (by omega), show c2.length + i - c2.length = i by omega, List.getElem?_append_left lt]; exact hp)
      rw [show (c1.length : Int) + (c2.length : Int) + (i : Int) = ((c1.length + c2.length + i : Nat) : Int) by omega]
      exact this
    rw [a1, a2, a3, a4, b1, b2, b3, b4, e1, e2, e3]
    refine ⟨⟨by omega, rfl, rfl, rfl⟩, ⟨by omega, by omega, by omega, by omega, by omega, by omega⟩, ?_, fun lt => ?_⟩
    · obtain ⟨x, x1, x2⟩ := q1
      refine ⟨x, x1, ?_⟩
      rw [show ((c1.length : Int) + (c2.length : Int) - (c1.length : Int)).toNat = c2.length by omega, chk_L at2]
      exact x2
    · rw [show ((c1.length : Int) + (c2.length : Int) + (c3.length : Int) - ((c1.length : Int) + (c2.length : Int))).toNat = c3.length by omega, chk_L at3]
      exact q2 (fun q => by rw [q] at lt; simp at lt)
  · obtain ⟨j, rfl⟩ : ∃ j : Nat, i = j := ⟨i.toNat, by omega⟩
    have hj : j < a.length := by omega
    have ej : a[j]? = some a[j] := List.getElem?_eq_getElem hj
    rw [x21 j _ ej, (vc j _ ej).1, (vc j _ ej).2]
