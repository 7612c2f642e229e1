/-! STORM: the class, the fewest -/
theorem p256 {i : Nat} (h : i ≤ 8) : 1 ≤ 2 ^ i ∧ 2 ^ i ≤ 256 := ⟨Nat.one_le_two_pow, Nat.le_trans (Nat.pow_le_pow_right (by decide) h) (by decide)⟩
theorem c_count {σ : St} {m : Nat} (w0 : σ 34 0 = 1) (w1 : σ 34 2 = m) (hm : m ≤ 8) (hw : ∀ k : Nat, k < m → 1 ≤ σ 35 k ∧ σ 35 k ≤ 9) : Ok (fX4_countFamilies σ) fun r σ' => r = ((2 ^ m - 1 : Nat) : Int) ∧ Fr [158] σ σ' ∧ ∀ S : Nat, S < 2 ^ m → σ' 158 S = sS (σ 35) m S := by
  have em : imn 8 (m : Int) = m := by unfold imn; split <;> omega
  have sz : up σ 158 0 0 34 2 = m := w1
  unfold fX4_countFamilies
  rw [sto_eq (by decide), row_size, bnd_some, sz, lb_eq, em, ko_bnd]
  have pm := p256 hm
  refine for_ok m (fun i x t => x = (i : Int) ∧ Fr [158] σ t ∧ ∀ S : Nat, S < 2 ^ i → t 158 S = sS (σ 35) i S) (by omega) ⟨rfl, Fr.rf.up (by decide), fun S hS => ?_⟩ ?_ ?_
  · have : S = 0 := by rw [Nat.pow_zero] at hS; omega
    subst this
    rfl
  · rintro i x t hi ⟨rfl, fx, hS⟩
    have wi := (wq4 (i := i) (by omega)).1
    have pi := p256 (i := i) (by omega)
    have pi1 := p256 (i := i + 1) (by omega)
    have p2 : 2 ^ (i + 1) = 2 * 2 ^ i := by rw [Nat.pow_succ, Nat.mul_comm]
    have w2 := Hd.m (show w32 (2 * ((2 ^ i : Nat) : Int)) = ((2 ^ (i + 1) : Nat) : Int) by rw [w32_sm (by omega), p2]; omega)
    have hwi := hw i hi
    rw [ko_t (by omega), lb_eq, ishl_one i (by omega), ko_bnd]
    refine for_ok (2 ^ i) (fun j x s => x = ((2 ^ i + j : Nat) : Int) ∧ Fr [158] σ s ∧ ∀ S : Nat, S < 2 ^ i + j → s 158 S = sS (σ 35) (i + 1) S) (by omega) ⟨by rw [Nat.add_zero], fx, fun S h => by rw [hS S (by omega), sS_lt (M := i + 1) (m := i) (by omega) (by omega)]⟩ ?_ ?_
    · rintro j x s hj ⟨rfl, fs, hs⟩
      have ws := Hd.m (show w32 (((2 ^ i + j : Nat) : Int) - ((2 ^ i : Nat) : Int)) = (j : Int) by rw [w32_sm (by omega)]; omega)
      have wn := Hd.m (show w32 (((2 ^ i + j : Nat) : Int) + 1) = ((2 ^ i + (j + 1) : Nat) : Int) by rw [w32_sm (by omega)]; omega)
      have bd := sS_bd (w := σ 35) (m := i + 1) (S := 2 ^ i + j) fun k hk => hw k (by omega)
      have st := sS_top (w := σ 35) (i := i) (S := 2 ^ i + j) (by omega) (by omega)
      rw [show 2 ^ i + j - 2 ^ i = j by omega] at st
      have gt : fX6_get 34 35 8 (i : Int) 0 s = some (σ 35 (i : Int), s) := by
        rw [row_get (w := 1) (by rw [fs 34 (by decide)]; exact w0) (by decide) (by rw [fs 34 (by decide), w1]; omega) (by decide), fs 34 (by decide), w1, if_pos (by omega), fs 35 (by decide), Int.mul_one, Int.add_zero]
      have hv : s 158 (j : Int) = sS (σ 35) i j := by
        rw [hs j (by omega), sS_lt (M := i + 1) (m := i) (by omega) (by omega)]
      rw [w2.o, ko_t (by omega), ws.o, lod_eq (by omega), gt, bnd_some, hv, w32_sm (x := sS (σ 35) i j + σ 35 i) (by omega), sto_eq (by omega), ko_some, ko_jl, wn.o]
      refine ⟨rfl, fs.up (by decide), fun S h => ?_⟩
      simp only [up_g, true_and, and_true, false_and, and_false, Nat.reduceEqDiff, if_false, if_true]
      by_cases e : S = 2 ^ i + j
      · rw [if_pos (by omega), e, st]
      · rw [if_neg (by omega)]
        exact hs S (by omega)
    · rintro x s ⟨rfl, fs, hs⟩
      rw [w2.o, ko_f (by omega), ko_some, ko_jr, ko_some, ko_jl, wi.o]
      exact ⟨rfl, fs, fun S h => hs S (by omega)⟩
  · rintro x t ⟨rfl, fx, hS⟩
    rw [ko_f (by omega), ko_some, ko_jr, ko_some, ishl_one m (by omega), w32_sm (by omega)]
    exact ⟨by omega, fx, hS⟩
/-- in so many lots, none above the room -/
def PkS (w : Int → Int) (m : Nat) (room : Int) : Nat → Nat → Prop
  | 0, S => S = 0
  | k + 1, S => ∃ q, q &&& S = q ∧ 0 < q ∧ sS w m q ≤ room ∧ PkS w m room k (S - q)
theorem PkS_le {w : Int → Int} {m : Nat} {room : Int} : ∀ {k S : Nat}, PkS w m room k S → k ≤ S := by
  intro k
  induction k with
  | zero => intro S _; exact Nat.zero_le S
  | succ k ih =>
    rintro S ⟨q, h1, h2, h3, h4⟩
    have := ih h4
    have := (sub_half h1).2.2
    omega
/-- the fewest lots, or none -/
def GF (w : Int → Int) (m : Nat) (room : Int) (v : Int) (S : Nat) : Prop := (v = -1 ∧ ∀ k, ¬ PkS w m room k S) ∨ ∃ k : Nat, v = k ∧ PkS w m room k S ∧ ∀ k', PkS w m room k' S → k ≤ k'
theorem GF.bd {w : Int → Int} {m : Nat} {room v : Int} {S : Nat} (h : GF w m room v S) : -1 ≤ v ∧ v ≤ S := by
  rcases h with ⟨h, _⟩ | ⟨k, h, h2, _⟩
  · omega
  · have := PkS_le h2
    omega
/-- the fewest so far, of the sets above p -/
def FMS (f w : Int → Int) (m : Nat) (room : Int) (S : Nat) (F : Int) (p : Nat) : Prop := (F = -1 ∧ ∀ q, q &&& S = q → p < q → sS w m q ≤ room → f ((S - q : Nat) : Int) = -1) ∨ ((∃ q, q &&& S = q ∧ p < q ∧ sS w m q ≤ room ∧ f ((S - q : Nat) : Int) ≠ -1 ∧ F = f ((S - q : Nat) : Int) + 1) ∧ ∀ q, q &&& S = q → p < q → sS w m q ≤ room → f ((S - q : Nat) : Int) ≠ -1 → F ≤ f ((S - q : Nat) : Int) + 1)
theorem FMS.start {f w : Int → Int} {m S : Nat} {room : Int} : FMS f w m room S (-1) S := Or.inl ⟨rfl, fun q hq hl _ => by have := (sub_half hq).2.2; omega⟩
theorem gapS {S p q : Nat} (hp : p &&& S = p) (hq : q &&& S = q) (hl : (p - 1) &&& S < q) : q = p ∨ p < q := by
  by_cases d : q < p
  · have := sub_next hp hq d
    omega
  · omega
theorem FMS.skip {f w : Int → Int} {m S p : Nat} {room F : Int} (h : FMS f w m room S F p) (hp : p &&& S = p) (h0 : 0 < p) (hst : sS w m p ≤ room → f ((S - p : Nat) : Int) ≠ -1 → F ≠ -1 ∧ F ≤ f ((S - p : Nat) : Int) + 1) : FMS f w m room S F ((p - 1) &&& S) := by
  have n2 := (sub_prev (s := S) h0).2
  rcases h with ⟨h1, h2⟩ | ⟨⟨q0, a1, a2, a3, a4, a5⟩, h2⟩
  · refine Or.inl ⟨h1, fun q hq hl hr => ?_⟩
    rcases gapS hp hq hl with rfl | d
    · by_cases z : f ((S - q : Nat) : Int) = -1
      · exact z
      · exact absurd h1 (hst hr z).1
    · exact h2 q hq d hr
  · refine Or.inr ⟨⟨q0, a1, Nat.lt_trans n2 a2, a3, a4, a5⟩, fun q hq hl hr hz => ?_⟩
    rcases gapS hp hq hl with rfl | d
    · exact (hst hr hz).2
    · exact h2 q hq d hr hz
theorem FMS.take {f w : Int → Int} {m S p : Nat} {room F : Int} (h : FMS f w m room S F p) (hp : p &&& S = p) (h0 : 0 < p) (hr : sS w m p ≤ room) (hz : f ((S - p : Nat) : Int) ≠ -1) (hF : F = -1 ∨ f ((S - p : Nat) : Int) + 1 < F) (hb : ∀ q, q &&& S = q → 0 < q → -1 ≤ f ((S - q : Nat) : Int)) : FMS f w m room S (f ((S - p : Nat) : Int) + 1) ((p - 1) &&& S) := by
  have n2 := (sub_prev (s := S) h0).2
  refine Or.inr ⟨⟨p, hp, n2, hr, hz, rfl⟩, fun q hq hl hr' hz' => ?_⟩
  rcases gapS hp hq hl with rfl | d
  · exact Int.le_refl _
  · rcases h with ⟨h1, h2⟩ | ⟨⟨q0, a1, a2, a3, a4, a5⟩, h2⟩
    · exact absurd (h2 q hq d hr') hz'
    · have e := h2 q hq d hr' hz'
      have b := hb q0 a1 (Nat.lt_of_le_of_lt (Nat.zero_le p) a2)
      rcases hF with e2 | e2
      · rw [e2] at a5
        exact absurd (show f ((S - q0 : Nat) : Int) = -1 by clear hz hz' e; omega) a4
      · exact Int.le_trans (Int.le_of_lt e2) e
theorem FMS.fin {f w : Int → Int} {m S : Nat} {room F : Int} (h : FMS f w m room S F 0) (hS : 0 < S) (hG : ∀ T : Nat, T < S → GF w m room (f T) T) : GF w m room F S := by
  have lt : ∀ q, q &&& S = q → 0 < q → S - q < S := fun q _ h0 => Nat.sub_lt hS h0
  rcases h with ⟨h1, h2⟩ | ⟨⟨q0, a1, a2, a3, a4, a5⟩, h2⟩
  · refine Or.inl ⟨h1, fun k hk => ?_⟩
    cases k with
    | zero => exact absurd hk (Nat.pos_iff_ne_zero.mp hS)
    | succ k =>
      obtain ⟨q, q1, q2, q3, q4⟩ := hk
      have e := h2 q q1 q2 q3
      rcases hG (S - q) (lt q q1 q2) with ⟨_, g⟩ | ⟨k2, g, _⟩
      · exact g k q4
      · rw [g] at e
        exact absurd e (by omega)
  · rcases hG (S - q0) (lt q0 a1 a2) with ⟨g, _⟩ | ⟨k, g1, g2, g3⟩
    · exact absurd g a4
    · refine Or.inr ⟨k + 1, by rw [a5, g1]; rfl, ⟨q0, a1, a2, a3, g2⟩, fun k' hk' => ?_⟩
      cases k' with
      | zero => exact absurd hk' (Nat.pos_iff_ne_zero.mp hS)
      | succ k' =>
        obtain ⟨q, q1, q2, q3, q4⟩ := hk'
        rcases hG (S - q) (lt q q1 q2) with ⟨_, g⟩ | ⟨k2, b1, b2, b3⟩
        · exact absurd q4 (g k')
        · have c := h2 q q1 q2 q3 (by rw [b1]; omega)
          rw [a5, g1, b1] at c
          have := b3 k' q4
          omega
theorem c_fewest {σ : St} {m : Nat} {room : Int} (w0 : σ 34 0 = 1) (w1 : σ 34 2 = m) (hm : m ≤ 8) (hw : ∀ k : Nat, k < m → 1 ≤ σ 35 k ∧ σ 35 k ≤ 9) : Ok (fX4_fewestShelters room σ) fun r σ' => Fr [158, 159] σ σ' ∧ GF (σ 35) m room r (2 ^ m - 1) := by
  unfold fX4_fewestShelters
  rw [ko_bnd]
  refine ok_mono (c_count w0 w1 hm hw) ?_
  rintro _ σ1 ⟨rfl, f1, hs⟩
  have pm := p256 hm
  rw [sto_eq (by decide), ko_bnd]
  have fx1 : Fr [158, 159] σ (up σ1 159 0 0) := (f1.mono (by decide)).up (by decide)
  clear w0 w1 hw f1
  refine for_ok (2 ^ m - 1) (fun i x t => x = ((i + 1 : Nat) : Int) ∧ Fr [158, 159] σ t ∧ t 158 = σ1 158 ∧ ∀ S : Nat, S < i + 1 → GF (σ 35) m room (t 159 S) S) (by omega) ⟨rfl, fx1, rfl, fun S h => ?_⟩ ?_ ?_
  · have : S = 0 := by omega
    subst this
    exact Or.inr ⟨0, rfl, rfl, fun k' _ => Nat.zero_le k'⟩
  · rintro i x t hi ⟨rfl, fx, e158, hG⟩
    have wn := Hd.m (show w32 (((i + 1 : Nat) : Int) + 1) = ((i + 1 + 1 : Nat) : Int) from w32_nat (by omega))
    rw [ko_f (by omega), ko_bnd]
    refine ok_mono (P := fun F t' => t = t' ∧ FMS (t 159) (σ 35) m room (i + 1) F 0) ?_ ?_
    · refine while_ok (fun x t' => t = t' ∧ ∃ (F : Int) (p : Nat), x = (F, (p : Int)) ∧ p &&& (i + 1) = p ∧ FMS (t 159) (σ 35) m room (i + 1) F p) (fun x _ => x.2.toNat) ⟨rfl, -1, i + 1, rfl, Nat.and_self _, FMS.start⟩ (by show ((i + 1 : Nat) : Int).toNat < _; omega) ?_
      rintro x _ ⟨rfl, F, p, rfl, hp, hF⟩
      have ple := (sub_half hp).2.2
      dsimp only
      by_cases c : 0 < (p : Int)
      · have c' : 0 < p := by omega
        obtain ⟨n1, n2⟩ := sub_prev (s := i + 1) c'
        have hb : ∀ q, q &&& (i + 1) = q → 0 < q → -1 ≤ t 159 ((i + 1 - q : Nat) : Int) := fun q _ h0 => (hG (i + 1 - q) (by omega)).bd.1
        have nx := Hd.m (show iand (w32 ((p : Int) - 1)) ((i + 1 : Nat) : Int) = (((p - 1) &&& (i + 1) : Nat) : Int) by
          rw [w32_sm (by omega), show (p : Int) - 1 = ((p - 1 : Nat) : Int) by omega, iand_nat (by omega) (by omega)])
        have ws := Hd.m (show w32 (((i + 1 : Nat) : Int) - (p : Int)) = ((i + 1 - p : Nat) : Int) by rw [w32_sm (by omega)]; omega)
        have hv : t 158 (p : Int) = sS (σ 35) m p := by rw [e158, hs p (by omega)]
        have hg := (hG (i + 1 - p) (by omega)).bd
        have hmu : ((((p - 1) &&& (i + 1) : Nat) : Int)).toNat < ((p : Nat) : Int).toNat := by rw [Int.toNat_natCast, Int.toNat_natCast]; exact n2
        have wv := Hd.m (show w32 (t 159 ((i + 1 - p : Nat) : Int) + 1) = t 159 ((i + 1 - p : Nat) : Int) + 1 from w32_sm (by omega))
        rw [ko_t c, ws.o, lod_eq (by omega), lod_eq (by omega), hv, nx.o, wv.o]
        by_cases c1 : room < sS (σ 35) m p
        · rw [ko_t c1, ko_lb, ko_some, ko_jl]
          exact ⟨⟨rfl, F, _, rfl, n1, hF.skip hp c' fun h _ => absurd h (by omega)⟩, hmu⟩
        · rw [ko_f c1]
          by_cases c2 : t 159 ((i + 1 - p : Nat) : Int) = -1
          · rw [ko_t c2, ko_lb, ko_some, ko_jl]
            exact ⟨⟨rfl, F, _, rfl, n1, hF.skip hp c' fun _ h => absurd c2 h⟩, hmu⟩
          · rw [ko_f c2]
            by_cases c3 : F = -1
            · rw [if_pos c3, bnx_inl, ko_lb, nx.o, ko_lb, ko_some, ko_jl]
              exact ⟨⟨rfl, _, _, rfl, n1, hF.take hp c' (by omega) c2 (Or.inl c3) hb⟩, hmu⟩
            · rw [if_neg c3]
              by_cases c4 : t 159 ((i + 1 - p : Nat) : Int) + 1 < F
              · rw [if_pos c4, bnx_inl, ko_lb, nx.o, ko_lb, ko_some, ko_jl]
                exact ⟨⟨rfl, _, _, rfl, n1, hF.take hp c' (by omega) c2 (Or.inr c4) hb⟩, hmu⟩
              · rw [if_neg c4, lb_eq, bnx_inr, ko_some, ko_jl]
                exact ⟨⟨rfl, F, _, rfl, n1, hF.skip hp c' fun _ _ => ⟨c3, by omega⟩⟩, hmu⟩
      · rw [ko_f c, ko_some, ko_jr]
        have : p = 0 := by omega
        subst this
        exact ⟨rfl, hF⟩
    · rintro F _ ⟨rfl, hF⟩
      have g := hF.fin (Nat.succ_pos i) hG
      rw [sto_eq (by omega), ko_some, ko_jl, wn.o]
      refine ⟨rfl, fx.up (by decide), e158, fun S h => ?_⟩
      simp only [up_g, true_and, and_true, false_and, and_false, Nat.reduceEqDiff, if_false, if_true]
      by_cases e : S = i + 1
      · rw [if_pos (by omega), e]
        exact g
      · rw [if_neg (by omega)]
        exact hG S (by omega)
  · rintro x t ⟨rfl, fx, e158, hG⟩
    rw [ko_t (by omega), ko_some, ko_jr, lod_eq (by omega), ko_some]
    exact ⟨fx, hG _ (by omega)⟩
