/-! TEXT: tokens -/
abbrev Tk := Int × Int × Int
def nv (C : Int → Int) (i : Int) : Nat → Int
  | 0 => 0
  | m + 1 => 10 * nv C i m + C (i + m) - 48
/-- the token from i to j -/
def TK (C : Int → Int) (i j : Int) (t : Tk) : Prop := t.2.2 = i ∧ if isDg (C i) then (if j - i ≤ 4 then t.1 = 257 ∧ t.2.1 = nv C i (j - i).toNat else t.1 = 258) else if isLt (C i) then WK C i j t.1 else t.1 = C i
/-- what is read from p on -/
def TL (C : Int → Int) : Int → List Tk → Prop
  | _, [] => False
  | p, t :: L => ∃ s, Run isBl C p s ∧ ((C s = -1 ∧ t.1 = 256 ∧ t.2.2 = s ∧ L = []) ∨ (C s ≠ -1 ∧ ∃ e, Ten C s e ∧ TK C s e t ∧ TL C e L))
theorem Run.ex {f : Int → Prop} {C : Int → Int} {n : Int} (c : CC C n) (hf : ¬ f (-1)) : ∀ (d : Nat) (i : Int), (n - i).toNat = d → i ≤ n → ∃ j, Run f C i j := by
  intro d
  induction d with
  | zero => exact fun i e hi => ⟨i, Int.le_refl _, fun k _ _ => by omega, by rw [c.2.2 i (by omega)]; exact hf⟩
  | succ d ih =>
    intro i e hi
    by_cases g : f (C i)
    · obtain ⟨j, j0, j1, j2⟩ := ih (i + 1) (by omega) (by omega)
      refine ⟨j, by omega, fun k k0 k1 => ?_, j2⟩
      by_cases q : k = i
      · rw [q]; exact g
      · exact j1 k (by omega) k1
    · exact ⟨i, Int.le_refl _, fun k _ _ => by omega, g⟩
theorem Ten.ex {C : Int → Int} {n i : Int} (c : CC C n) (hi : i < n) : ∃ j, Ten C i j := by
  unfold Ten
  by_cases d : isDg (C i)
  · obtain ⟨j, h⟩ := Run.ex c nDg _ (i + 1) rfl (by omega)
    exact ⟨j, by rw [if_pos d]; exact h⟩
  · by_cases l : isLt (C i)
    · obtain ⟨j, h⟩ := Run.ex c nLt _ (i + 1) rfl (by omega)
      exact ⟨j, by rw [if_neg d, if_pos l]; exact h⟩
    · exact ⟨i + 1, by rw [if_neg d, if_neg l]⟩
theorem Ten.uniq {C : Int → Int} {i j j' : Int} (h : Ten C i j) (h' : Ten C i j') : j = j' := by
  unfold Ten at h h'
  by_cases d : isDg (C i)
  · rw [if_pos d] at h h'; exact h.uniq h'
  · rw [if_neg d] at h h'
    by_cases l : isLt (C i)
    · rw [if_pos l] at h h'; exact h.uniq h'
    · rw [if_neg l] at h h'; omega
theorem Ten.bd {C : Int → Int} {n i j : Int} (h : Ten C i j) (c : CC C n) (hi : i < n) : i + 1 ≤ j ∧ j ≤ n := by
  unfold Ten at h
  by_cases d : isDg (C i)
  · rw [if_pos d] at h; exact ⟨h.1, h.le c nDg (by omega)⟩
  · rw [if_neg d] at h
    by_cases l : isLt (C i)
    · rw [if_pos l] at h; exact ⟨h.1, h.le c nLt (by omega)⟩
    · rw [if_neg l] at h; omega
theorem in_n {C : Int → Int} {n s : Int} (c : CC C n) (h : C s ≠ -1) : s < n := by
  by_cases e : s < n
  · exact e
  · exact absurd (c.2.2 s (by omega)) h
theorem TK.ex (C : Int → Int) (i j : Int) : ∃ t, TK C i j t := by
  unfold TK
  by_cases d : isDg (C i)
  · by_cases e : j - i ≤ 4
    · exact ⟨(257, nv C i (j - i).toNat, i), rfl, by rw [if_pos d, if_pos e]; exact ⟨rfl, rfl⟩⟩
    · exact ⟨(258, 0, i), rfl, by rw [if_pos d, if_neg e]⟩
  · by_cases l : isLt (C i)
    · by_cases w : ∃ w, w < 28 ∧ Wd C i j w
      · obtain ⟨w, w0, w1⟩ := w
        exact ⟨(cw w, 0, i), rfl, by rw [if_neg d, if_pos l]; exact Or.inl ⟨w, w0, w1, rfl⟩⟩
      · exact ⟨(258, 0, i), rfl, by rw [if_neg d, if_pos l]; exact Or.inr ⟨rfl, fun v v0 v1 => w ⟨v, v0, v1⟩⟩⟩
    · exact ⟨(C i, 0, i), rfl, by rw [if_neg d, if_neg l]⟩
theorem TL.ex {C : Int → Int} {n : Int} (c : CC C n) : ∀ (d : Nat) (p : Int), (n - p).toNat ≤ d → p ≤ n → ∃ L, TL C p L ∧ (L.length : Int) ≤ n - p + 1 := by
  intro d
  induction d with
  | zero =>
    intro p e hp
    exact ⟨[(256, 0, p)], ⟨p, ⟨Int.le_refl _, fun k _ _ => by omega, by rw [c.2.2 p (by omega)]; exact nBl⟩, Or.inl ⟨c.2.2 p (by omega), rfl, rfl, rfl⟩⟩, by simp only [List.length_singleton]; omega⟩
  | succ d ih =>
    intro p e hp
    obtain ⟨s, hs⟩ := Run.ex (f := isBl) c nBl _ p rfl hp
    have hsn := hs.le c nBl hp
    by_cases z : C s = -1
    · exact ⟨[(256, 0, s)], ⟨s, hs, Or.inl ⟨z, rfl, rfl, rfl⟩⟩, by simp only [List.length_singleton]; omega⟩
    · have sn := in_n c z
      obtain ⟨j, hj⟩ := Ten.ex c sn
      have jb := hj.bd c sn
      have ps := hs.1
      obtain ⟨t, ht⟩ := TK.ex C s j
      obtain ⟨L, hL, hl⟩ := ih j (by omega) jb.2
      exact ⟨t :: L, ⟨s, hs, Or.inr ⟨z, j, hj, ht, hL⟩⟩, by simp only [List.length_cons]; omega⟩
theorem WK.uniq {C : Int → Int} {a b k k' : Int} (h : WK C a b k) (h' : WK C a b k') : k = k' := by
  rcases h with ⟨w, w0, w1, w2⟩ | ⟨w2, w3⟩ <;> rcases h' with ⟨v, v0, v1, v2⟩ | ⟨v2, v3⟩
  · rw [w2, v2, Wd.uniq w0 v0 w1 v1]
  · exact absurd w1 (v3 w w0)
  · exact absurd v1 (w3 v v0)
  · rw [w2, v2]
theorem nv_bd {C : Int → Int} {i : Int} : ∀ m : Nat, m ≤ 4 → (∀ k, i ≤ k → k < i + m → isDg (C k)) → 0 ≤ nv C i m ∧ nv C i m < 10 ^ m := by
  intro m
  induction m with
  | zero => intro _ _; unfold nv; omega
  | succ m ih =>
    intro hm h
    have a := ih (by omega) fun k k0 k1 => h k k0 (by omega)
    have d := h (i + m) (by omega) (by omega)
    unfold isDg at d
    unfold nv
    have : (10 : Int) ^ (m + 1) = 10 * 10 ^ m := by rw [Int.pow_succ, Int.mul_comm]
    rw [this]
    generalize (10 : Int) ^ m = z at *
    omega
theorem nv_le {C : Int → Int} {i : Int} {m : Nat} (hm : m ≤ 4) (h : ∀ k, i ≤ k → k < i + m → isDg (C k)) : 0 ≤ nv C i m ∧ nv C i m ≤ 9999 := by
  have a := nv_bd m hm h
  have : (10 : Int) ^ m ≤ 10 ^ 4 := by
    obtain rfl | rfl | rfl | rfl | rfl : m = 0 ∨ m = 1 ∨ m = 2 ∨ m = 3 ∨ m = 4 := by omega
    all_goals decide
  omega
theorem dg_lt {v : Int} (h : isDg v) : ¬ isLt v := by unfold isDg at h; unfold isLt; omega
def NT (C : Int → Int) (a b : Int) (σ σ' : St) : Prop := Fr [145, 146, 147, 148] σ σ' ∧ σ' 145 4 = σ 145 4 + 1 ∧ σ' 145 5 = σ 145 5 ∧ (∀ j, j ≠ σ 145 4 → σ' 146 j = σ 146 j ∧ σ' 147 j = σ 147 j ∧ σ' 148 j = σ 148 j) ∧ ∀ t, TK C a b t → σ' 146 (σ 145 4) = t.1 ∧ σ' 148 (σ 145 4) = t.2.2 ∧ (t.1 = 257 → σ' 147 (σ 145 4) = t.2.1)
theorem CX.fr {C : Int → Int} {n : Int} {σ σ' : St} {S : List Nat} (h : CX C n σ) (f : Fr S σ σ') (d : S.contains 1 = false ∧ S.contains 2 = false) : CX C n σ' := by
  have d1 : 1 ∉ S := by simpa using d.1
  have d2 : 2 ∉ S := by simpa using d.2
  unfold CX
  rw [f 1 d1, f 2 d2]
  exact h
