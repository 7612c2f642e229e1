/-! STORM: the fewest lots, one by one -/
theorem bit_ex {q m : Nat} (h0 : 0 < q) (h1 : q < 2 ^ m) : ∃ x, x < m ∧ q.testBit x = true := by
  apply Classical.byContradiction
  intro h
  have : q = 0 := by
    apply Nat.eq_of_testBit_eq
    intro j
    rw [Nat.zero_testBit]
    cases c : q.testBit j with
    | false => rfl
    | true =>
      by_cases hj : j < m
      · exact absurd ⟨j, hj, c⟩ h
      · rw [Nat.testBit_lt_two_pow (Nat.lt_of_lt_of_le h1 (Nat.pow_le_pow_right (by decide) (by omega)))] at c
        cases c
  omega
theorem pow_sub {S x : Nat} (h : S.testBit x = true) : 2 ^ x &&& S = 2 ^ x := sub_iff.mpr fun j hj => by
  rw [Nat.testBit_two_pow] at hj
  rw [← of_decide_eq_true hj]
  exact h
theorem sS_pow {w : Int → Int} {x : Nat} : ∀ {m : Nat}, x < m → sS w m (2 ^ x) = w x := by
  intro m
  induction m with
  | zero => intro h; omega
  | succ m ih =>
    intro h
    rw [sS, Nat.testBit_two_pow]
    by_cases e : x = m
    · subst e
      rw [sS_cong (T := 0) fun j hj => by rw [Nat.testBit_two_pow, Nat.zero_testBit, decide_eq_false (by omega)], sS_zero, decide_eq_true rfl]
      simp
    · rw [ih (by omega), decide_eq_false e]
      simp
theorem sS_ge {w : Int → Int} {q x : Nat} : ∀ {m : Nat}, (∀ k : Nat, k < m → 1 ≤ w k ∧ w k ≤ 9) → x < m → q.testBit x = true → w x ≤ sS w m q := by
  intro m
  induction m with
  | zero => intro _ h; omega
  | succ m ih =>
    intro hw h hb
    rw [sS]
    have b := sS_bd (w := w) (m := m) (S := q) fun k hk => hw k (by omega)
    have c := hw m (by omega)
    by_cases e : x = m
    · subst e
      rw [if_pos hb]
      omega
    · have := ih (fun k hk => hw k (by omega)) (by omega) hb
      split <;> omega
theorem PkS_fit {w : Int → Int} {m : Nat} {room : Int} {x : Nat} (hw : ∀ k : Nat, k < m → 1 ≤ w k ∧ w k ≤ 9) (hx : x < m) : ∀ {k S : Nat}, PkS w m room k S → S.testBit x = true → w x ≤ room := by
  intro k
  induction k with
  | zero =>
    intro S h hb
    rw [show S = 0 from h, Nat.zero_testBit] at hb
    cases hb
  | succ k ih =>
    rintro S ⟨q, q1, q2, q3, q4⟩ hb
    cases c : q.testBit x with
    | true => exact Int.le_trans (sS_ge hw hx c) q3
    | false => exact ih q4 (by rw [sub_bit q1, hb, c]; rfl)
theorem GF.uniq {w : Int → Int} {m : Nat} {room v v' : Int} {S : Nat} (h : GF w m room v S) (h' : GF w m room v' S) : v = v' := by
  rcases h with ⟨h1, h2⟩ | ⟨k, h1, h2, h3⟩
  · rcases h' with ⟨g1, g2⟩ | ⟨k', g1, g2, g3⟩
    · rw [h1, g1]
    · exact absurd g2 (h2 k')
  · rcases h' with ⟨g1, g2⟩ | ⟨k', g1, g2, g3⟩
    · exact absurd h2 (g2 k)
    · have := h3 k' g2
      have := g3 k h2
      omega
/-- in so many lots, so many in the last one -/
def PLS (w : Int → Int) (m : Nat) (c : Int) (k : Nat) (l : Int) (S : Nat) : Prop := (k = 0 ∧ l = 0 ∧ S = 0) ∨ ∃ k0 q, k = k0 + 1 ∧ q &&& S = q ∧ 0 < q ∧ sS w m q = l ∧ l ≤ c ∧ PkS w m c k0 (S - q)
theorem PLS.pk {w : Int → Int} {m k S : Nat} {c l : Int} (h : PLS w m c k l S) : PkS w m c k S := by
  rcases h with ⟨h1, h2, h3⟩ | ⟨k0, q, rfl, h1, h2, h3, h4, h5⟩
  · rw [h1]; exact h3
  · exact ⟨q, h1, h2, by omega, h5⟩
theorem PLS.of {w : Int → Int} {m k S : Nat} {c : Int} (hc : 0 ≤ c) (h : PkS w m c k S) : ∃ l, l ≤ c ∧ PLS w m c k l S := by
  cases k with
  | zero => exact ⟨0, hc, Or.inl ⟨rfl, rfl, h⟩⟩
  | succ k =>
    obtain ⟨q, q1, q2, q3, q4⟩ := h
    exact ⟨sS w m q, q3, Or.inr ⟨k, q, rfl, q1, q2, rfl, q3, q4⟩⟩
theorem PLS.bd {w : Int → Int} {m k S : Nat} {c l : Int} (hw : ∀ k : Nat, k < m → 1 ≤ w k ∧ w k ≤ 9) (hc : 0 ≤ c) (h : PLS w m c k l S) : 0 ≤ l ∧ l ≤ c := by
  rcases h with ⟨h1, h2, h3⟩ | ⟨k0, q, _, h1, h2, h3, h4, h5⟩
  · omega
  · have := (sS_bd (w := w) (m := m) (S := q) hw).1
    omega
def RGv (w : Int → Int) (m : Nat) (c v : Int) (S : Nat) : Prop := ∃ (k : Nat) (l : Int), v = 100 * k + l ∧ PLS w m c k l S ∧ ∀ k' l', PLS w m c k' l' S → v ≤ 100 * (k' : Nat) + l'
theorem RGv.zero {w : Int → Int} {m : Nat} {c : Int} (hw : ∀ k : Nat, k < m → 1 ≤ w k ∧ w k ≤ 9) (hc : 0 ≤ c) : RGv w m c 0 0 := ⟨0, 0, rfl, Or.inl ⟨rfl, rfl, rfl⟩, fun k' l' h => by have := h.bd hw hc; omega⟩
theorem RGv.bd {w : Int → Int} {m S : Nat} {c v : Int} (hw : ∀ k : Nat, k < m → 1 ≤ w k ∧ w k ≤ 9) (hc : 0 ≤ c ∧ c ≤ 30) (h : RGv w m c v S) : 0 ≤ v ∧ v ≤ 100 * S + 30 := by
  obtain ⟨k, l, e, h1, _⟩ := h
  have := h1.bd hw hc.1
  have := PkS_le h1.pk
  omega
def wFv (have_ v c : Int) : Int := if 0 < have_ / 100 ∧ have_ % 100 + v ≤ c then have_ + v else 100 * (have_ / 100 + 1) + v
theorem sub_of_sub {S r : Nat} (h : r &&& S = r) : (S - r) &&& S = S - r := sub_iff.mpr fun j hj => by
  rw [sub_bit h] at hj
  exact (Bool.and_eq_true_iff.mp hj).1
theorem sub_trans {a b c : Nat} (h : a &&& b = a) (h2 : b &&& c = b) : a &&& c = a := sub_iff.mpr fun j hj => sub_iff.mp h2 j (sub_iff.mp h j hj)
theorem RGv.step {w : Int → Int} {m S : Nat} {c v : Int} {f : Int → Int} (hw : ∀ k : Nat, k < m → 1 ≤ w k ∧ w k ≤ 9) (hwc : ∀ k : Nat, k < m → w k ≤ c) (hc : 1 ≤ c ∧ c ≤ 30) (hS : 0 < S) (hSm : S < 2 ^ m) (hf : ∀ T : Nat, T < S → RGv w m c (f T) T)
    (hv1 : ∃ x, x < m ∧ S.testBit x = true ∧ v = wFv (f ((S - 2 ^ x : Nat) : Int)) (w x) c) (hv2 : ∀ x, x < m → S.testBit x = true → v ≤ wFv (f ((S - 2 ^ x : Nat) : Int)) (w x) c) : RGv w m c v S := by
  have c0 : 0 ≤ c := by omega
  have low : ∀ k' l', PLS w m c k' l' S → v ≤ 100 * (k' : Nat) + l' := by
    intro k' l' h
    rcases h with ⟨_, _, h⟩ | ⟨k0, q, rfl, q1, q2, q3, q4, q5⟩
    · omega
    · obtain ⟨x, x1, x2⟩ := bit_ex q2 (Nat.lt_of_le_of_lt (sub_half q1).2.2 hSm)
      have xS := sub_iff.mp q1 x x2
      have pS := pow_sub xS
      have pq := pow_sub x2
      have px : 0 < 2 ^ x := Nat.two_pow_pos x
      have hle := hv2 x x1 xS
      have wx := hw x x1
      obtain ⟨k, l, e, hp, hmin⟩ := hf (S - 2 ^ x) (Nat.sub_lt hS px)
      have lb := hp.bd hw c0
      rw [e] at hle
      have d1 : (100 * (k : Int) + l) / 100 = k := by omega
      have d2 : (100 * (k : Int) + l) % 100 = l := by omega
      unfold wFv at hle
      rw [d1, d2] at hle
      by_cases ce : q = 2 ^ x
      · subst ce
        rw [sS_pow x1] at q3
        have hk : (k : Int) ≤ k0 := by
          obtain ⟨l1, l2, l3⟩ := PLS.of c0 q5
          have := hmin k0 l1 l3
          omega
        split at hle <;> omega
      · -- the lot without the one
        have r1 : (q - 2 ^ x) &&& (S - 2 ^ x) = q - 2 ^ x := sub_iff.mpr fun j hj => by
          rw [sub_bit pq] at hj
          obtain ⟨h1, h2⟩ := Bool.and_eq_true_iff.mp hj
          rw [sub_bit pS, sub_iff.mp q1 j h1, h2]
          rfl
        have r2 : 0 < q - 2 ^ x := by
          have := (sub_half pq).2.2
          omega
        have r3 : sS w m (q - 2 ^ x) = l' - w x := by rw [sS_sub pq, q3, sS_pow x1]
        have r4 : S - 2 ^ x - (q - 2 ^ x) = S - q := by
          have := (sub_half pq).2.2
          omega
        have hl := hmin (k0 + 1) (l' - w x) (Or.inr ⟨k0, q - 2 ^ x, rfl, r1, r2, r3, by omega, by rw [r4]; exact q5⟩)
        have wl := sS_ge hw x1 x2
        rw [q3] at wl
        split at hle <;> omega
  obtain ⟨x, x1, xS, ev⟩ := hv1
  have pS := pow_sub xS
  have px : 0 < 2 ^ x := Nat.two_pow_pos x
  have wx := hw x x1
  have wc := hwc x x1
  obtain ⟨k, l, e, hp, hmin⟩ := hf (S - 2 ^ x) (Nat.sub_lt hS px)
  have lb := hp.bd hw c0
  rw [e] at ev
  have d1 : (100 * (k : Int) + l) / 100 = k := by omega
  have d2 : (100 * (k : Int) + l) % 100 = l := by omega
  unfold wFv at ev
  rw [d1, d2] at ev
  by_cases cc : 0 < (k : Int) ∧ l + w x ≤ c
  · rw [if_pos cc] at ev
    refine ⟨k, l + w x, by omega, ?_, low⟩
    rcases hp with ⟨z, _⟩ | ⟨k0, q0, rfl, q1, q2, q3, q4, q5⟩
    · omega
    · have rT : (S - 2 ^ x - q0) &&& (S - 2 ^ x) = S - 2 ^ x - q0 := sub_of_sub q1
      have rS : (S - 2 ^ x - q0) &&& S = S - 2 ^ x - q0 := sub_trans rT (sub_of_sub pS)
      have q0le := (sub_half q1).2.2
      have pxle := (sub_half pS).2.2
      refine Or.inr ⟨k0, S - (S - 2 ^ x - q0), rfl, sub_of_sub rS, by omega, ?_, cc.2, ?_⟩
      · rw [sS_sub rS, sS_sub q1, sS_sub pS, sS_pow x1, q3]
        omega
      · rw [show S - (S - (S - 2 ^ x - q0)) = S - 2 ^ x - q0 by omega]
        exact q5
  · rw [if_neg cc] at ev
    exact ⟨k + 1, w x, by omega, Or.inr ⟨k, 2 ^ x, rfl, pS, px, sS_pow x1, wc, hp.pk⟩, low⟩
theorem RGv.gf {w : Int → Int} {m S : Nat} {c v : Int} (hw : ∀ k : Nat, k < m → 1 ≤ w k ∧ w k ≤ 9) (hc : 1 ≤ c ∧ c ≤ 30) (h : RGv w m c v S) : GF w m c (v / 100) S := by
  obtain ⟨k, l, e, hp, hmin⟩ := h
  have lb := hp.bd hw (by omega)
  refine Or.inr ⟨k, by omega, hp.pk, fun k' hk' => ?_⟩
  obtain ⟨l1, l2, l3⟩ := PLS.of (by omega) hk'
  have := hmin k' l1 l3
  omega
