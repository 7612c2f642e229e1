/-! STORM: the class, in how many ways -/
theorem DW_none {w : Int → Int} : ∀ {m : Nat} {caps : Nat → Int} {S : Nat}, S < 2 ^ m → DW w 0 m caps S = if S = 0 then 1 else 0 := by
  intro m
  induction m with
  | zero =>
    intro caps S h
    rw [if_pos (by rw [Nat.pow_zero] at h; omega)]
    rfl
  | succ m ih =>
    intro caps S h
    rw [DW]
    by_cases c : 2 ^ m ≤ S
    · rw [(top_bit c h).1, if_pos rfl, if_neg (by have := Nat.two_pow_pos m; omega)]
      rfl
    · rw [low_bit (m := m) (by omega) (Nat.le_refl m), if_neg (by decide), ih (by omega)]
/-- what one porch more gives -/
def Gs (f w : Int → Int) (m : Nat) (room : Int) (S q : Nat) : Int := if q &&& S = q ∧ sS w m q ≤ room then f ((S - q : Nat) : Int) else 0
theorem c_one {t : St} {w : Int → Int} {m S : Nat} {room : Int} (hm : m ≤ 8) (hS : S < 2 ^ m) (hr : 0 ≤ room) (h158 : ∀ q : Nat, q < 2 ^ m → t 158 q = sS w m q) (hf : ∀ q : Nat, q ≤ S → 0 ≤ t 159 q ∧ t 159 q ≤ 65536) (hb : smI (Gs (t 159) w m room S) (2 ^ m) ≤ 65536) : fX4_shelterOneMore S room t = some (smI (Gs (t 159) w m room S) (2 ^ m), t) := by
  have pm := p256 hm
  have G0 : ∀ q, 0 ≤ Gs (t 159) w m room S q ∧ Gs (t 159) w m room S q ≤ 65536 := fun q => by
    unfold Gs
    split
    · exact hf _ (Nat.sub_le S q)
    · exact ⟨by decide, by decide⟩
  have Gz : ∀ q, ¬ (q &&& S = q) → Gs (t 159) w m room S q = 0 := fun q hq => if_neg fun x => hq x.1
  have g00 : Gs (t 159) w m room S 0 = t 159 (S : Int) := by
    unfold Gs
    rw [if_pos ⟨Nat.zero_and S, by rw [sS_zero]; exact hr⟩, Nat.sub_zero]
  apply ok_eq
  unfold fX4_shelterOneMore
  rw [lod_eq (by omega), ko_bnd, ← g00]
  generalize hG : Gs (t 159) w m room S = G at *
  have bd := smI_bd (f := G) (B := 65536) (n := 2 ^ m) fun i _ => G0 i
  have tot : smI G (S + 1) = smI G (2 ^ m) := (smI_gap (by omega) fun q h1 h2 => Gz q fun e => by have := (sub_half e).2.2; omega).symm
  refine while_ok (fun x t' => t = t' ∧ ∃ p : Nat, x = (G 0 + (smI G (2 ^ m) - smI G (p + 1)), (p : Int)) ∧ p &&& S = p) (fun x _ => x.2.toNat) ⟨rfl, S, by rw [tot, Int.sub_self, Int.add_zero], Nat.and_self S⟩ (by show (S : Int).toNat < _; omega) ?_
  rintro x _ ⟨rfl, p, rfl, hp⟩
  have ple := (sub_half hp).2.2
  have mo := smI_mono (f := G) (a := p + 1) (b := 2 ^ m) (by omega) fun i _ => (G0 i).1
  have m0 := smI_bd (f := G) (B := 65536) (n := p + 1) fun i _ => G0 i
  have gz0 := G0 0
  have gp := G0 p
  dsimp only
  by_cases c : 0 < (p : Int)
  · have c' : 0 < p := by omega
    obtain ⟨n1, n2⟩ := sub_prev (s := S) c'
    have nx := Hd.m (show iand (w32 ((p : Int) - 1)) (S : Int) = (((p - 1) &&& S : Nat) : Int) by
      rw [w32_sm (by omega), show (p : Int) - 1 = ((p - 1 : Nat) : Int) by omega, iand_nat (by omega) (by omega)])
    have ws := Hd.m (show w32 ((S : Int) - (p : Int)) = ((S - p : Nat) : Int) by rw [w32_sm (by omega)]; omega)
    have hmu : ((((p - 1) &&& S : Nat) : Int)).toNat < ((p : Nat) : Int).toNat := by rw [Int.toNat_natCast, Int.toNat_natCast]; exact n2
    have nxt : smI G (p + 1) = smI G (((p - 1) &&& S) + 1) + G p := by
      rw [smI]
      congr 1
      refine smI_gap (by omega) fun q h1 h2 => Gz q fun e => ?_
      rcases gapS hp e (by omega) with d | d <;> omega
    rw [ko_t c, lod_eq (by omega), h158 p (by omega), nx.o, ws.o]
    by_cases d : room < sS w m p
    · have gp0 : G p = 0 := by
        rw [← hG]
        exact if_neg fun x => by have := x.2; omega
      rw [ko_t d, ko_lb, ko_some, ko_jl]
      exact ⟨⟨rfl, _, by rw [nxt, gp0, Int.add_zero], n1⟩, hmu⟩
    · have gpv : t 159 ((S - p : Nat) : Int) = G p := by
        rw [← hG]
        exact (if_pos ⟨hp, by omega⟩).symm
      rw [ko_f d, lod_eq (by omega), gpv, w64_sm (by omega), ko_lb, ko_lb, ko_some, ko_jl]
      refine ⟨⟨rfl, _, ?_, n1⟩, hmu⟩
      congr 1
      omega
  · have p0 : p = 0 := by omega
    subst p0
    have one : smI G (0 + 1) = G 0 := by
      rw [smI, smI, Int.zero_add]
    rw [ko_f c, ko_some, ko_jr, one, show G 0 + (smI G (2 ^ m) - G 0) = smI G (2 ^ m) by omega, dvc_eq (by decide), ko_some, lrm_nn bd.1, Int.emod_eq_of_lt bd.1 (by omega), l2i_sm (by omega)]
    exact ⟨rfl, rfl⟩
theorem c_stormWays {σ : St} {m k : Nat} {room : Int} (w0 : σ 34 0 = 1) (w1 : σ 34 2 = m) (hm : m ≤ 8) (hw : ∀ k : Nat, k < m → 1 ≤ σ 35 k ∧ σ 35 k ≤ 9) (hk : k ≤ 4) (hr : 0 ≤ room) : Ok (fX4_waysToShelter room k σ) fun r σ' => Fr [158, 159] σ σ' ∧ r = DW (σ 35) k m (fun _ => room) (2 ^ m - 1) := by
  have pm := p256 hm
  have p4 : (4 ^ m : Nat) ≤ 65536 := Nat.le_trans (Nat.pow_le_pow_right (by decide) hm) (by decide)
  have hw0 : ∀ i : Nat, i < m → 0 ≤ σ 35 i := fun i hi => by have := hw i hi; omega
  unfold fX4_waysToShelter
  rw [ko_bnd]
  refine ok_mono (c_count w0 w1 hm hw) ?_
  rintro _ σ1 ⟨rfl, f1, hs⟩
  rw [fill_eq (by decide), bnd_some, sto_eq (by decide), ko_bnd]
  have fx1 : Fr [158, 159] σ (up (fil σ1 159 256 0) 159 0 1) := ((f1.mono (by decide)).fil (by decide)).up (by decide)
  have e158 : up (fil σ1 159 256 0) 159 0 1 158 = σ1 158 := rfl
  have e159 : ∀ S : Nat, S < 2 ^ m → up (fil σ1 159 256 0) 159 0 1 159 S = DW (σ 35) 0 m (fun _ => room) S := fun S h => by
    rw [DW_none h, up_at, fil_at (by omega)]
    by_cases e : S = 0
    · rw [if_pos (by omega), if_pos e]
    · rw [if_neg (by omega), if_neg e]
  generalize up (fil σ1 159 256 0) 159 0 1 = σ2 at *
  refine for_ok k (fun i x t => x = (i : Int) ∧ Fr [158, 159] σ t ∧ t 158 = σ1 158 ∧ ∀ S : Nat, S < 2 ^ m → t 159 S = DW (σ 35) i m (fun _ => room) S) (by omega) ⟨rfl, fx1, e158, e159⟩ ?_ ?_
  · rintro i x t hi ⟨rfl, ft, t158, t159⟩
    have wi := (wq4 (i := i) (by omega)).1
    rw [ko_t (by omega), ko_bnd]
    refine for_ok (2 ^ m) (fun j x s => x = ((2 ^ m : Nat) : Int) - 1 - j ∧ Fr [158, 159] σ s ∧ s 158 = σ1 158 ∧ (∀ S : Nat, S < 2 ^ m - j → s 159 S = DW (σ 35) i m (fun _ => room) S) ∧ ∀ S : Nat, 2 ^ m - j ≤ S → S < 2 ^ m → s 159 S = DW (σ 35) (i + 1) m (fun _ => room) S) (by omega) ⟨by omega, ft, t158, fun S h => t159 S (by omega), fun S h1 h2 => by omega⟩ ?_ ?_
    · rintro j x s hj ⟨rfl, fs, s158, lo, hi2⟩
      have e : ((2 ^ m : Nat) : Int) - 1 - j = ((2 ^ m - 1 - j : Nat) : Int) := by omega
      have wn := Hd.m (show w32 (((2 ^ m - 1 - j : Nat) : Int) + -1) = ((2 ^ m : Nat) : Int) - 1 - ((j + 1 : Nat) : Int) by rw [w32_sm (by omega)]; omega)
      have hD : smI (Gs (s 159) (σ 35) m room (2 ^ m - 1 - j)) (2 ^ m) = DW (σ 35) (i + 1) m (fun _ => room) (2 ^ m - 1 - j) := by
        rw [DW_main hw0 hr]
        refine smI_cong fun q hq => ?_
        unfold Gs
        by_cases d : q &&& (2 ^ m - 1 - j) = q ∧ sS (σ 35) m q ≤ room
        · rw [if_pos d, if_pos d]
          exact lo _ (by have := (sub_half d.1).2.2; omega)
        · rw [if_neg d, if_neg d]
      have db := DW_bd (w := σ 35) (k := i + 1) (by omega) (m := m) (caps := fun _ => room) (S := 2 ^ m - 1 - j)
      have c1 := c_one (t := s) (w := σ 35) (m := m) (S := 2 ^ m - 1 - j) (room := room) hm (by omega) hr (fun q hq => by rw [s158]; exact hs q hq) (fun q hq => by
        rw [lo q (by omega)]
        have := DW_bd (w := σ 35) (k := i) (by omega) (m := m) (caps := fun _ => room) (S := q)
        omega) (by rw [hD]; omega)
      rw [ko_f (by omega), e, c1, bnd_some, sto_eq (by omega), ko_some, ko_jl, wn.o, hD]
      refine ⟨rfl, fs.up (by decide), s158, fun S h => ?_, fun S h1 h2 => ?_⟩
      · simp only [up_g, true_and, and_true, false_and, and_false, Nat.reduceEqDiff, if_false, if_true]
        rw [if_neg (by omega)]
        exact lo S (by omega)
      · simp only [up_g, true_and, and_true, false_and, and_false, Nat.reduceEqDiff, if_false, if_true]
        by_cases q : S = 2 ^ m - 1 - j
        · rw [if_pos (by omega), q]
        · rw [if_neg (by omega)]
          exact hi2 S (by omega) h2
    · rintro x s ⟨rfl, fs, s158, lo, hi2⟩
      rw [ko_t (by omega), ko_some, ko_jr, ko_some, ko_jl, wi.o]
      exact ⟨rfl, fs, s158, fun S h => hi2 S (by omega) h⟩
  · rintro x t ⟨rfl, ft, t158, t159⟩
    rw [ko_f (by omega), ko_some, ko_jr, lod_eq (by omega), ko_some]
    exact ⟨ft, t159 _ (by omega)⟩
