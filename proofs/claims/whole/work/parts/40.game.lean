/-! GAME -/
def wn : Nat → Nat → Nat → Bool
  | 0, _, _ => true
  | f + 1, m, l => if 2 * l ≤ m ∨ m = l then true else !wn f l (m - l)
def win (m l : Nat) : Bool := wn m m l
theorem wn_more : ∀ (f g m l : Nat), 1 ≤ l → l ≤ m → m ≤ f → m ≤ g → wn f m l = wn g m l := by
  intro f
  induction f with
  | zero => intro g m l h1 h2 h3; omega
  | succ f ih =>
    intro g m l h1 h2 h3 h4
    obtain ⟨g, rfl⟩ : ∃ k, g = k + 1 := ⟨g - 1, by omega⟩
    rw [wn, wn]
    by_cases h : 2 * l ≤ m ∨ m = l
    · rw [if_pos h, if_pos h]
    · rw [if_neg h, if_neg h, ih g l (m - l) (by omega) (by omega) (by omega) (by omega)]
theorem win_eq {m l : Nat} (h1 : 1 ≤ l) (h2 : l ≤ m) : win m l = if 2 * l ≤ m ∨ m = l then true else !win l (m - l) := by
  obtain ⟨k, rfl⟩ : ∃ k, m = k + 1 := ⟨m - 1, by omega⟩
  unfold win
  rw [wn]
  by_cases h : 2 * l ≤ k + 1 ∨ k + 1 = l
  · rw [if_pos h, if_pos h]
  · rw [if_neg h, if_neg h, wn_more k l l (k + 1 - l) (by omega) (by omega) (by omega) (by omega)]
def gd (X Y k : Nat) : Prop := X - k * Y = 0 ∨ win (max (X - k * Y) Y) (min (X - k * Y) Y) = false
theorem win_iff {x y : Nat} (h1 : 1 ≤ y) (h2 : y ≤ x) : win x y = true ↔ ∃ k, 1 ≤ k ∧ k * y ≤ x ∧ gd x y k := by
  constructor
  · intro hw
    by_cases e : x = y
    · exact ⟨1, by omega, by omega, Or.inl (by omega)⟩
    · by_cases c : 2 * y ≤ x
      · have hd := Nat.div_add_mod x y
        have hr := Nat.mod_lt x (show 0 < y by omega)
        have hq : 2 ≤ x / y := (Nat.le_div_iff_mul_le (by omega)).mpr c
        generalize x / y = q at hd hq
        generalize x % y = r at hd hr
        rw [Nat.mul_comm] at hd
        by_cases r0 : r = 0
        · exact ⟨q, by omega, by omega, Or.inl (by omega)⟩
        · cases hyr : win y r with
          | false =>
            refine ⟨q, by omega, by omega, Or.inr ?_⟩
            rw [show x - q * y = r by omega, show max r y = y by omega, show min r y = r by omega]
            exact hyr
          | true =>
            obtain ⟨p, rfl⟩ : ∃ p, q = p + 1 := ⟨q - 1, by omega⟩
            rw [Nat.add_mul, Nat.one_mul] at hd
            refine ⟨p, by omega, by omega, Or.inr ?_⟩
            rw [show x - p * y = y + r by omega, show max (y + r) y = y + r by omega, show min (y + r) y = y by omega, win_eq h1 (by omega), if_neg (by omega), show y + r - y = r by omega, hyr]
            rfl
      · rw [win_eq h1 h2, if_neg (by omega)] at hw
        refine ⟨1, by omega, by omega, Or.inr ?_⟩
        rw [Nat.one_mul, show max (x - y) y = y by omega, show min (x - y) y = x - y by omega]
        simpa using hw
  · rintro ⟨k, k1, k2, hg⟩
    rw [win_eq h1 h2]
    by_cases c : 2 * y ≤ x ∨ x = y
    · rw [if_pos c]
    · rw [if_neg c]
      have hk : k = 1 := by
        by_cases k3 : 2 ≤ k
        · have := Nat.mul_le_mul_right y k3
          omega
        · omega
      subst hk
      unfold gd at hg
      rw [Nat.one_mul, show max (x - y) y = y by omega, show min (x - y) y = x - y by omega] at hg
      rcases hg with h | h
      · omega
      · rw [h]; rfl
/-- the least that wins -/
def TS (X Y : Nat) (r : Int) : Prop := (r = -1 ∧ ∀ k, 1 ≤ k → k * Y ≤ X → ¬ gd X Y k) ∨ ∃ k, 1 ≤ k ∧ k * Y ≤ X ∧ r = ((k * Y : Nat) : Int) ∧ gd X Y k ∧ ∀ j, 1 ≤ j → j < k → ¬ gd X Y j
theorem TS.one {X Y : Nat} {r r' : Int} (h : TS X Y r) (h' : TS X Y r') : r = r' := by
  rcases h with ⟨rfl, h⟩ | ⟨k, k1, k2, rfl, k3, k4⟩
  · rcases h' with ⟨rfl, h'⟩ | ⟨k, k1, k2, rfl, k3, k4⟩
    · rfl
    · exact absurd k3 (h k k1 k2)
  · rcases h' with ⟨rfl, h'⟩ | ⟨l, l1, l2, rfl, l3, l4⟩
    · exact absurd k3 (h' k k1 k2)
    · rcases Nat.lt_trichotomy k l with h | h | h
      · exact absurd k3 (l4 k k1 h)
      · rw [h]
      · exact absurd l3 (k4 l l1 h)
theorem TS.none {X Y : Nat} {r : Int} (h : TS X Y r) (h1 : 1 ≤ Y) (h2 : Y ≤ X) : r = -1 ↔ win X Y = false := by
  rcases h with ⟨rfl, h⟩ | ⟨k, k1, k2, rfl, k3, k4⟩
  · refine ⟨fun _ => ?_, fun _ => rfl⟩
    cases hw : win X Y with
    | false => rfl
    | true =>
      obtain ⟨k, k1, k2, k3⟩ := (win_iff h1 h2).mp hw
      exact absurd k3 (h k k1 k2)
  · constructor
    · intro h; omega
    · intro h
      rw [(win_iff h1 h2).mpr ⟨k, k1, k2, k3⟩] at h
      cases h
theorem wins_eq {m l : Nat} {σ : St} (h1 : 1 ≤ l) (h2 : l ≤ m) (h3 : m ≤ 1000) : fX4_wins m l σ = some (if win m l then 1 else 0, σ) := by
  apply ok_eq
  unfold fX4_wins
  rw [ko_bnx]
  refine while_ok (fun x σ' => σ' = σ ∧ ∃ a b t : Nat, x = ((a : Int), (b : Int), (t : Int)) ∧ 1 ≤ b ∧ b ≤ a ∧ a + t ≤ m ∧ win m l = (if t % 2 = 0 then win a b else !win a b)) (fun x _ => (1000 - x.2.2).toNat) ⟨rfl, m, l, 0, rfl, h1, h2, by omega, rfl⟩ (by show (1000 - (0 : Int)).toNat < 100000000; decide) ?_
  rintro x σ' ⟨rfl, a, b, t, rfl, b1, b2, b3, b4⟩
  have e1 : w32 (2 * (b : Int)) = 2 * b := w32_sm (by omega)
  have e2 : w32 ((t : Int) + 1) = ((t + 1 : Nat) : Int) := w32_nat (by omega)
  have e3 : w32 ((a : Int) - b) = ((a - b : Nat) : Int) := by rw [w32_sm (by omega)]; omega
  have e4 : irm (t : Int) 2 = ((t % 2 : Nat) : Int) := by rw [irm_nn (by omega)]; omega
  have e5 : ((2 : Int) = 0) = False := by decide
  rw [win_eq b1 b2] at b4
  have fin : 2 * b ≤ a ∨ a = b → (if irm (t : Int) 2 = 0 then (1 : Int) else 0) = if win m l = true then 1 else 0 := by
    intro h
    rw [if_pos h] at b4
    rw [e4, b4]
    by_cases ht : t % 2 = 0
    · rw [ht]; rfl
    · rw [if_neg ht, if_neg (by omega)]; rfl
  simp only [ko_some, ko_none, ko_if, ko_bnd, ko_bnx, ko_lod, ko_sto, ko_stb, ko_fld, ko_put, ko_lb, ko_dvc, ko_loa, ko_cpy, ko_jl, ko_jr, i01, i10, up_g, if_false, if_true, Int.reduceEq, Nat.reduceEqDiff, Classical.not_not, within_eq, isIn_eq, hasPorch_eq, hasPerson_eq, isPorch_eq, isPerson_eq, not_true_eq_false, not_false_eq_true, true_and, and_true, false_and, and_false, false_imp_iff, true_imp_iff, implies_true, e1, e2, e3, ne_eq, e5]
  refine ⟨fun _ => ⟨fun c2 => ⟨fun c3 => ?_, fun c3 => ?_⟩, fun c2 => ?_⟩, fun c => by omega⟩
  · have f := fin (Or.inr (by omega))
    constructor
    · intro h; rw [if_pos h] at f; exact f
    · intro h; rw [if_neg h] at f; exact f
  · rw [if_neg (show ¬ (2 * b ≤ a ∨ a = b) by omega)] at b4
    refine ⟨⟨b, a - b, t + 1, rfl, by omega, by omega, by omega, ?_⟩, by omega⟩
    rw [b4]
    by_cases ht : t % 2 = 0
    · rw [if_pos ht, if_neg (by omega)]
    · rw [if_neg ht, if_pos (by omega), Bool.not_not]
  · have f := fin (Or.inl (by omega))
    constructor
    · intro h; rw [if_pos h] at f; exact f
    · intro h; rw [if_neg h] at f; exact f
theorem take_ok {X Y : Nat} {σ : St} (h1 : 1 ≤ Y) (h2 : Y ≤ X) (h3 : X ≤ 200) : Ok (fX4_winningTake X Y σ) fun r σ' => σ' = σ ∧ TS X Y r := by
  unfold fX4_winningTake
  rw [ko_f (by omega), ko_bnx]
  refine while_ok (fun x σ' => σ' = σ ∧ ∃ k : Nat, x = ((k * Y : Nat) : Int) ∧ 1 ≤ k ∧ (k - 1) * Y ≤ X ∧ ∀ j, 1 ≤ j → j < k → ¬ gd X Y j) (fun x _ => (1000 - x).toNat) ⟨rfl, 1, by rw [Nat.one_mul], by omega, by omega, fun j h1 h2 => by omega⟩ (by omega) ?_
  rintro x σ' ⟨rfl, k, rfl, k1, k2, k3⟩
  obtain ⟨p, rfl⟩ : ∃ p, k = p + 1 := ⟨k - 1, by omega⟩
  rw [Nat.add_sub_cancel] at k2
  have hk : (p + 1) * Y = p * Y + Y := by rw [Nat.add_mul, Nat.one_mul]
  simp only [ko_some, ko_none, ko_if, ko_bnd, ko_bnx, ko_lod, ko_sto, ko_stb, ko_fld, ko_put, ko_lb, ko_dvc, ko_loa, ko_cpy, ko_jl, ko_jr, i01, i10, up_g, if_false, if_true, Int.reduceEq, Nat.reduceEqDiff, Classical.not_not, within_eq, isIn_eq, hasPorch_eq, hasPerson_eq, isPorch_eq, isPerson_eq, not_true_eq_false, not_false_eq_true, true_and, and_true, false_and, and_false, false_imp_iff, true_imp_iff, implies_true]
  refine ⟨fun c => Or.inl ⟨rfl, fun j j1 j2 => ?_⟩, fun c => ?_⟩
  · by_cases hj : j < p + 1
    · exact k3 j j1 hj
    · have := Nat.mul_le_mul_right Y (show p + 1 ≤ j by omega)
      omega
  · have e1 : w32 ((X : Int) - ((p + 1) * Y : Nat)) = ((X - (p + 1) * Y : Nat) : Int) := by rw [w32_sm (by omega)]; omega
    have e2 : w32 ((((p + 1) * Y : Nat) : Int) + Y) = (((p + 1 + 1) * Y : Nat) : Int) := by rw [w32_sm (by omega), Nat.add_mul (p + 1) 1 Y]; omega
    rw [e1, e2]
    refine ⟨fun c2 => Or.inr ⟨p + 1, by omega, by omega, rfl, Or.inl (by omega), k3⟩, fun c2 => ?_⟩
    rw [imx_nat, imn_nat, wins_eq (by omega) (by omega) (by omega), ko_some, i01]
    refine ⟨fun c3 => ⟨rfl, Or.inr ⟨p + 1, by omega, by omega, rfl, Or.inr (by simpa using c3), k3⟩⟩, fun c3 => ⟨⟨rfl, p + 1 + 1, rfl, by omega, by rw [Nat.add_sub_cancel]; omega, fun j j1 j2 => ?_⟩, ?_⟩⟩
    · by_cases hj : j < p + 1
      · exact k3 j j1 hj
      · obtain rfl : j = p + 1 := by omega
        unfold gd
        rintro (q | q)
        · omega
        · rw [q] at c3; exact absurd c3 (by decide)
    · rw [Nat.add_mul (p + 1) 1 Y]; omega
def tabW (τ : St) (x y : Nat) : Prop := ∀ a b : Nat, 1 ≤ b → b ≤ a → (a < x ∨ a = x ∧ b < y) → τ 55 (201 * a + b) = if win a b then 1 else 0
theorem good_ok {X Y : Nat} {τ : St} (h1 : 1 ≤ Y) (h2 : Y ≤ X) (h3 : X ≤ 200) (ht : tabW τ X 1) : Ok (fX12_goodTaking X Y τ) fun r τ' => τ' = τ ∧ TS X Y r := by
  unfold fX12_goodTaking
  rw [ko_bnx]
  refine while_ok (fun x τ' => τ' = τ ∧ ∃ k : Nat, x = ((k * Y : Nat) : Int) ∧ 1 ≤ k ∧ (k - 1) * Y ≤ X ∧ ∀ j, 1 ≤ j → j < k → ¬ gd X Y j) (fun x _ => (1000 - x).toNat) ⟨rfl, 1, by rw [Nat.one_mul], by omega, by omega, fun j h1 h2 => by omega⟩ (by omega) ?_
  rintro x τ' ⟨rfl, k, rfl, k1, k2, k3⟩
  obtain ⟨p, rfl⟩ : ∃ p, k = p + 1 := ⟨k - 1, by omega⟩
  rw [Nat.add_sub_cancel] at k2
  have hk : (p + 1) * Y = p * Y + Y := by rw [Nat.add_mul, Nat.one_mul]
  simp only [ko_some, ko_none, ko_if, ko_bnd, ko_bnx, ko_lod, ko_sto, ko_stb, ko_fld, ko_put, ko_lb, ko_dvc, ko_loa, ko_cpy, ko_jl, ko_jr, i01, i10, up_g, if_false, if_true, Int.reduceEq, Nat.reduceEqDiff, Classical.not_not, within_eq, isIn_eq, hasPorch_eq, hasPerson_eq, isPorch_eq, isPerson_eq, not_true_eq_false, not_false_eq_true, true_and, and_true, false_and, and_false, false_imp_iff, true_imp_iff, implies_true, greater_eq, lesser_eq]
  refine ⟨fun c => Or.inl ⟨rfl, fun j j1 j2 => ?_⟩, fun c => ?_⟩
  · by_cases hj : j < p + 1
    · exact k3 j j1 hj
    · have := Nat.mul_le_mul_right Y (show p + 1 ≤ j by omega)
      omega
  · have e1 : w32 ((X : Int) - ((p + 1) * Y : Nat)) = ((X - (p + 1) * Y : Nat) : Int) := by rw [w32_sm (by omega)]; omega
    have e2 : w32 ((((p + 1) * Y : Nat) : Int) + Y) = (((p + 1 + 1) * Y : Nat) : Int) := by rw [w32_sm (by omega), Nat.add_mul (p + 1) 1 Y]; omega
    rw [e1, e2]
    refine ⟨fun c2 => Or.inr ⟨p + 1, by omega, by omega, rfl, Or.inl (by omega), k3⟩, fun c2 => ?_⟩
    have e3 := ht (max (X - (p + 1) * Y) Y) (min (X - (p + 1) * Y) Y) (by omega) (by omega) (by omega)
    rw [imx_nat, imn_nat, show w32 (201 * ((max (X - (p + 1) * Y) Y : Nat) : Int)) = 201 * ((max (X - (p + 1) * Y) Y : Nat) : Int) from w32_sm (by omega), w32_sm (by omega), e3, i01]
    refine ⟨by omega, fun c3 => Or.inr ⟨p + 1, by omega, by omega, rfl, Or.inr (by simpa using c3), k3⟩, fun c3 => ⟨⟨p + 1 + 1, rfl, by omega, by rw [Nat.add_sub_cancel]; omega, fun j j1 j2 => ?_⟩, ?_⟩⟩
    · by_cases hj : j < p + 1
      · exact k3 j j1 hj
      · obtain rfl : j = p + 1 := by omega
        unfold gd
        rintro (q | q)
        · omega
        · rw [q] at c3; exact absurd c3 (by decide)
    · rw [Nat.add_mul (p + 1) 1 Y]; omega
theorem s_game {σ τ : St} (h : Rl σ τ) {p1 p2 : Int} : Sim (fX11_game p1 p2 σ) (fX12_game p1 p2 τ) := by
  unfold fX12_game
  refine sim_t0 h ?_
  clear h
  intro τ h
  unfold Sim fX11_game
  simp only [isIn_eq, within_eq, ko_bnd, ko_some, ko_if, i01, Classical.not_not, greater_eq, lesser_eq]
  refine ⟨fun c1 => ⟨fun _ => ⟨by trivial, h⟩, fun c => absurd c c1⟩, fun c1 => ⟨fun c2 => ⟨fun c => absurd c1 c, fun _ => ⟨fun _ => ⟨by trivial, h⟩, fun c => absurd c c2⟩⟩, fun c2 => ?_⟩⟩
  obtain ⟨a, rfl⟩ : ∃ a : Nat, p1 = a := ⟨p1.toNat, by omega⟩
  obtain ⟨b, rfl⟩ : ∃ b : Nat, p2 = b := ⟨p2.toNat, by omega⟩
  rw [imx_nat, imn_nat]
  obtain ⟨r, σ', e, rfl, hr⟩ := take_ok (σ := σ) (X := max a b) (Y := min a b) (by omega) (by omega) (by omega)
  refine ⟨r, σ', e, fun c => absurd c1 c, fun _ => ⟨fun c => absurd c2 c, fun _ => ?_⟩⟩
  have hX : max a b ≤ 200 := by omega
  generalize hXe : max a b = X at hX hr
  have hY : 1 ≤ min a b ∧ min a b ≤ X := by omega
  generalize min a b = Y at hY hr
  refine for_ok X (fun i x τ' => x = ((i + 1 : Nat) : Int) ∧ Fm [55] [] τ τ' ∧ tabW τ' (i + 1) 1) (by omega) ⟨rfl, Fm.rf, fun a b _ _ h => by omega⟩ ?_ ?_
  · rintro i x τ' hi ⟨rfl, fm, ht⟩
    rw [ko_f (by omega), ko_bnd]
    refine for_ok (i + 1) (fun j x τ' => x = ((j + 1 : Nat) : Int) ∧ Fm [55] [] τ τ' ∧ tabW τ' (i + 1) (j + 1)) (by omega) ⟨rfl, fm, ht⟩ ?_ ?_
    · rintro j x τ' hj ⟨rfl, fm, ht⟩
      rw [ko_f (by omega), ko_bnd]
      refine ok_mono (good_ok (X := i + 1) (Y := j + 1) (by omega) (by omega) (by omega) (fun a b h1 h2 h3 => ht a b h1 h2 (by omega))) ?_
      rintro r τ'' ⟨rfl, hr2⟩
      have hn := hr2.none (by omega) (by omega)
      have e1 : w32 (201 * ((i + 1 : Nat) : Int)) = 201 * ((i + 1 : Nat) : Int) := w32_sm (by omega)
      have e2 : w32 (201 * ((i + 1 : Nat) : Int) + ((j + 1 : Nat) : Int)) = 201 * ((i + 1 : Nat) : Int) + ((j + 1 : Nat) : Int) := w32_sm (by omega)
      simp only [ko_if, ko_sto, ko_some, ko_jl, e1, e2, w32_nat (show j + 1 < 2147483647 by omega)]
      have key : ∀ v : Int, v = (if win (i + 1) (j + 1) then 1 else 0) → Fm [55] [] τ (up τ'' 55 (201 * ((i + 1 : Nat) : Int) + ((j + 1 : Nat) : Int)) v) ∧ tabW (up τ'' 55 (201 * ((i + 1 : Nat) : Int) + ((j + 1 : Nat) : Int)) v) (i + 1) (j + 1 + 1) := by
        intro v hv
        refine ⟨fm.up (by decide) (by decide), fun a b h1 h2 h3 => ?_⟩
        rw [up_at]
        by_cases hab : (201 * (a : Int) + b) = 201 * ((i + 1 : Nat) : Int) + ((j + 1 : Nat) : Int)
        · obtain ⟨rfl, rfl⟩ : a = i + 1 ∧ b = j + 1 := by omega
          rw [if_pos hab, hv]
        · rw [if_neg hab]
          exact ht a b h1 h2 (by omega)
      refine ⟨fun c => ⟨by omega, by trivial, key 0 (by rw [hn.mp c]; rfl)⟩, fun c => ⟨by omega, by trivial, key 1 ?_⟩⟩
      cases hw : win (i + 1) (j + 1) with
      | false => exact absurd (hn.mpr hw) c
      | true => rfl
    · rintro x τ' ⟨rfl, fm, ht⟩
      simp only [ko_some, ko_none, ko_if, ko_bnd, ko_bnx, ko_lod, ko_sto, ko_stb, ko_fld, ko_put, ko_lb, ko_dvc, ko_loa, ko_cpy, ko_jl, ko_jr, i01, i10, up_g, if_false, if_true, Int.reduceEq, Nat.reduceEqDiff, Classical.not_not, within_eq, isIn_eq, hasPorch_eq, hasPerson_eq, isPorch_eq, isPerson_eq, not_true_eq_false, not_false_eq_true, true_and, and_true, false_and, and_false, false_imp_iff, true_imp_iff, implies_true]
      refine ⟨fun _ => ⟨w32_nat (by omega), fm, fun a b h1 h2 h3 => ht a b h1 h2 (by omega)⟩, fun c => absurd (by omega) c⟩
  · rintro x τ' ⟨rfl, fm, ht⟩
    rw [ko_t (by omega), ko_some, ko_jr]
    refine ok_mono (good_ok hY.1 hY.2 hX (fun a b h1 h2 h3 => ht a b h1 h2 (by omega))) ?_
    rintro r2 τ'' ⟨rfl, hr2⟩
    exact ⟨hr2.one hr, h.work Fr.rf (fm.mono (by decide) (by decide))⟩
