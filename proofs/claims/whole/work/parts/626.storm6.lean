/-! STORM: the reference, in how many ways -/
/-- how many are under porch p when way tells where the first f families go -/
def ldS (w : Int → Int) (k : Nat) : Nat → Nat → Nat → Int
  | 0, _, _ => 0
  | f + 1, way, p => ldS w k f way p + if way / k ^ f % k = p then w f else 0
theorem ldS_nn {w : Int → Int} {k : Nat} : ∀ {f way p : Nat}, (∀ i : Nat, i < f → 0 ≤ w i) → 0 ≤ ldS w k f way p := by
  intro f
  induction f with
  | zero => intro way p _; exact Int.le_refl 0
  | succ f ih =>
    intro way p h
    have := ih (way := way) (p := p) fun i hi => h i (by omega)
    have := h f (by omega)
    rw [ldS]
    split <;> omega
/-- 1 where none is above its own -/
def okA (g caps : Nat → Int) : Nat → Int
  | 0 => 1
  | k + 1 => if g k ≤ caps k then okA g caps k else 0
theorem okA_one {g caps : Nat → Int} : ∀ {k : Nat}, (∀ p, p < k → g p ≤ caps p) → okA g caps k = 1 := by
  intro k
  induction k with
  | zero => intro _; rfl
  | succ k ih => intro h; rw [okA, if_pos (h k (by omega)), ih fun p hp => h p (by omega)]
theorem okA_zero {g caps : Nat → Int} {p : Nat} : ∀ {k : Nat}, p < k → ¬ g p ≤ caps p → okA g caps k = 0 := by
  intro k
  induction k with
  | zero => intro h; omega
  | succ k ih =>
    intro h hp
    rw [okA]
    by_cases e : p = k
    · rw [← e, if_neg hp]
    · rw [ih (by omega) hp]
      split <;> rfl
theorem okA_cong {g g' caps caps' : Nat → Int} : ∀ {k : Nat}, (∀ p, p < k → (g p ≤ caps p ↔ g' p ≤ caps' p)) → okA g caps k = okA g' caps' k := by
  intro k
  induction k with
  | zero => intro _; rfl
  | succ k ih =>
    intro h
    rw [okA, okA, ih fun p hp => h p (by omega)]
    have := h k (by omega)
    by_cases c : g k ≤ caps k
    · rw [if_pos c, if_pos (this.mp c)]
    · rw [if_neg c, if_neg fun x => c (this.mpr x)]
theorem ldS_low {w : Int → Int} {k M d r : Nat} (hk : 0 < k) (hr : r < k ^ M) : ∀ {f p : Nat}, f ≤ M → ldS w k f (d * k ^ M + r) p = ldS w k f r p := by
  intro f
  induction f with
  | zero => intro p _; rfl
  | succ f ih =>
    intro p hf
    have e : (d * k ^ M + r) / k ^ f % k = r / k ^ f % k := by
      have e1 : d * k ^ M + r = r + k ^ f * (k * (d * k ^ (M - f - 1))) := by
        rw [Nat.add_comm, show k ^ M = k ^ f * (k * k ^ (M - f - 1)) by rw [← Nat.pow_succ', ← Nat.pow_add]; congr 1; omega]
        congr 1
        rw [Nat.mul_left_comm, Nat.mul_left_comm d k]
      rw [e1, Nat.add_mul_div_left _ _ (Nat.pow_pos hk), Nat.add_mul_mod_self_left]
    rw [ldS, ldS, ih (by omega), e]
theorem N_DW {w : Int → Int} {k : Nat} (hk : 0 < k) : ∀ {m : Nat} {caps : Nat → Int}, (∀ i : Nat, i < m → 0 ≤ w i) → (∀ p, p < k → 0 ≤ caps p) → smI (fun way => okA (fun p => ldS w k m way p) caps k) (k ^ m) = DW w k m caps (2 ^ m - 1) := by
  intro m
  induction m with
  | zero =>
    intro caps _ hc
    rw [Nat.pow_zero, smI, smI, okA_one (g := fun p => ldS w k 0 0 p) (fun p hp => hc p hp)]
    rfl
  | succ m ih =>
    intro caps hw hc
    have hw' : ∀ i : Nat, i < m → 0 ≤ w i := fun i hi => hw i (by omega)
    have wm := hw m (by omega)
    rw [DW, Nat.testBit_two_pow_sub_one, decide_eq_true (Nat.lt_succ_self m), if_pos rfl, show k ^ (m + 1) = k * k ^ m by rw [Nat.pow_succ, Nat.mul_comm], smI_mul]
    refine smI_cong fun d hd => ?_
    have dig : ∀ r, r < k ^ m → (d * k ^ m + r) / k ^ m % k = d := fun r hr => by
      rw [Nat.mul_comm d, Nat.mul_add_div (Nat.pow_pos hk), Nat.div_eq_of_lt hr, Nat.add_zero, Nat.mod_eq_of_lt hd]
    by_cases c : w m ≤ caps d
    · rw [if_pos c, ← DW_S (S := 2 ^ m - 1) (T := 2 ^ (m + 1) - 1) fun j hj => by rw [Nat.testBit_two_pow_sub_one, Nat.testBit_two_pow_sub_one, decide_eq_true hj, decide_eq_true (by omega)], ← ih (caps := cut caps d (w m)) hw' fun p hp => by
        unfold cut
        have := hc p hp
        split <;> omega]
      refine smI_cong fun r hr => okA_cong fun p hp => ?_
      show ldS w k (m + 1) (d * k ^ m + r) p ≤ caps p ↔ ldS w k m r p ≤ cut caps d (w m) p
      rw [ldS, ldS_low hk hr (Nat.le_refl m), dig r hr]
      unfold cut
      by_cases e : p = d
      · subst e
        rw [if_pos rfl, if_pos rfl]
        omega
      · rw [if_neg (fun x => e x.symm), if_neg e]
        omega
    · rw [if_neg c]
      refine smI_zero fun r hr => okA_zero (p := d) hd ?_
      show ¬ ldS w k (m + 1) (d * k ^ m + r) d ≤ caps d
      rw [ldS, ldS_low hk hr (Nat.le_refl m), dig r hr, if_pos rfl]
      have := ldS_nn (k := k) (way := r) (p := d) hw'
      omega
theorem m_dry {τ : St} {m k way : Nat} {c : Int} (w1 : τ 0 58 = m) (hm : m ≤ 8) (hw : ∀ k : Nat, k < m → 1 ≤ τ 36 k ∧ τ 36 k ≤ 9) (hk : 1 ≤ k ∧ k ≤ 4) (hway : way < 65536) (hc : 0 ≤ c) : Ok (fX12_isDry way c k τ) fun r τ' => Fm [38] [] τ τ' ∧ r = okA (fun p => ldS (τ 36) k m way p) (fun _ => c) k := by
  unfold fX12_isDry
  rw [ko_bnd]
  refine for_ok 4 (fun i x t => x = (i : Int) ∧ Fm [38] [] τ t ∧ ∀ p : Nat, p < i → t 38 p = 0) (by decide) ⟨rfl, Fm.rf, fun p hp => absurd hp (Nat.not_lt_zero p)⟩ ?_ ?_
  · rintro i x t hi ⟨rfl, ft, h0⟩
    have wi := (wq4 (i := i) (by omega)).1
    rw [ko_t (by omega), sto_eq (by omega), ko_some, ko_jl, wi.o]
    refine ⟨rfl, ft.up (by decide) (by decide), fun p hp => ?_⟩
    simp only [up_g, true_and, and_true, false_and, and_false, Nat.reduceEqDiff, if_false, if_true]
    by_cases e : p = i
    · rw [if_pos (by omega)]
    · rw [if_neg (by omega)]
      exact h0 p (by omega)
  rintro x t ⟨rfl, ft, h0⟩
  rw [ko_f (by decide), ko_some, ko_jr, ko_bnx]
  have mono : ∀ f g : Nat, f ≤ g → g ≤ m → ∀ p, ldS (τ 36) k f way p ≤ ldS (τ 36) k g way p := by
    intro f g hfg
    induction g with
    | zero => intro _ p; rw [show f = 0 by omega]; exact Int.le_refl _
    | succ g ih =>
      intro hg p
      by_cases e : f = g + 1
      · rw [e]; exact Int.le_refl _
      · have := ih (by omega) (by omega) p
        have := hw g (by omega)
        rw [ldS]
        split <;> omega
  have bdl : ∀ f p : Nat, f ≤ m → 0 ≤ ldS (τ 36) k f way p ∧ ldS (τ 36) k f way p ≤ 9 * f := by
    intro f p
    induction f with
    | zero => intro _; exact ⟨Int.le_refl 0, Int.le_refl 0⟩
    | succ f ih =>
      intro hf
      have := ih (by omega)
      have := hw f (by omega)
      rw [ldS]
      split <;> omega
  refine for_ok m (fun f x s => x = (((way / k ^ f : Nat) : Int), (f : Int)) ∧ Fm [38] [] τ s ∧ (∀ p : Nat, p < k → s 38 p = ldS (τ 36) k f way p ∧ ldS (τ 36) k f way p ≤ c)) (by omega) ⟨by rw [Nat.pow_zero, Nat.div_one]; rfl, ft, fun p hp => ⟨h0 p (by omega), hc⟩⟩ ?_ ?_
  · rintro f x s hf ⟨rfl, fs, hs⟩
    have hwf := hw f hf
    have Lle : way / k ^ f ≤ way := Nat.div_le_self _ _
    have pk : way / k ^ f % k < k := Nat.mod_lt _ (by omega)
    have ir : irm ((way / k ^ f : Nat) : Int) (k : Int) = ((way / k ^ f % k : Nat) : Int) := by rw [irm_nn (Int.natCast_nonneg _), Int.natCast_emod]
    have iq : idv ((way / k ^ f : Nat) : Int) (k : Int) = ((way / k ^ (f + 1) : Nat) : Int) := by
      rw [show way / k ^ (f + 1) = way / k ^ f / k by rw [Nat.pow_succ, Nat.div_div_eq_div_mul]]
      generalize way / k ^ f = L at *
      rw [idv_nn (by omega) (by omega) (by omega), Int.natCast_ediv]
    have wi := (wq4 (i := f) (by omega)).1
    have hp := hs _ pk
    have b1 := bdl f (way / k ^ f % k) (by omega)
    have nw : ldS (τ 36) k (f + 1) way (way / k ^ f % k) = ldS (τ 36) k f way (way / k ^ f % k) + τ 36 (f : Int) := by rw [ldS, if_pos rfl]
    dsimp only
    rw [ko_fld, show s 0 58 = m by rw [fs.2 58 (by decide)]; exact w1, ko_t (by omega), dvc_eq (by omega), dvc_eq (by omega), ir, lod_eq (by omega), lod_eq (by omega), hp.1, fs.1 36 (by decide) (by decide), w32_sm (x := ldS (τ 36) k f way (way / k ^ f % k) + τ 36 (f : Int)) (by omega), sto_eq (by omega), dvc_eq (by omega), lod_eq (by omega), ← nw]
    have e0 : up s 38 ((way / k ^ f % k : Nat) : Int) (ldS (τ 36) k (f + 1) way (way / k ^ f % k)) 38 ((way / k ^ f % k : Nat) : Int) = ldS (τ 36) k (f + 1) way (way / k ^ f % k) := (by (simp only [up_g, Nat.reduceAdd, true_and, and_true, false_and, and_false, Nat.reduceEqDiff, if_false, if_true]) <;> (repeat (first | rw [if_neg (by omega)] | rw [if_pos (by omega)])) <;> (first | assumption | omega))
    rw [e0]
    by_cases d : c < ldS (τ 36) k (f + 1) way (way / k ^ f % k)
    · rw [ko_t d, ko_some, ko_jr, ko_jl, ko_some]
      refine ⟨fs.up (by decide) (by decide), (okA_zero pk ?_).symm⟩
      have := mono (f + 1) m (by omega) (by omega) (way / k ^ f % k)
      show ¬ ldS (τ 36) k m way (way / k ^ f % k) ≤ c
      omega
    · rw [ko_f d, dvc_eq (by omega), ko_lb, iq, ko_some, ko_jl, wi.o]
      refine ⟨rfl, fs.up (by decide) (by decide), fun p hp2 => ?_⟩
      by_cases e : p = way / k ^ f % k
      · rw [e, e0]
        exact ⟨rfl, by omega⟩
      · have same : ldS (τ 36) k (f + 1) way p = ldS (τ 36) k f way p := by rw [ldS, if_neg (fun x => e x.symm), Int.add_zero]
        rw [same]
        refine ⟨?_, (hs p hp2).2⟩
        simp only [up_g, true_and, and_true, false_and, and_false, Nat.reduceEqDiff, if_false, if_true]
        rw [if_neg (by omega)]
        exact (hs p hp2).1
  · rintro x s ⟨rfl, fs, hs⟩
    dsimp only
    rw [ko_fld, show s 0 58 = m by rw [fs.2 58 (by decide)]; exact w1, ko_f (Int.lt_irrefl _), ko_some, ko_jr, ko_jr]
    exact ⟨fs, (okA_one fun p hp => (hs p hp).2).symm⟩
theorem m_ways {τ : St} {m k : Nat} {c : Int} (w1 : τ 0 58 = m) (hm : m ≤ 8) (hw : ∀ k : Nat, k < m → 1 ≤ τ 36 k ∧ τ 36 k ≤ 9) (hk : 1 ≤ k ∧ k ≤ 4) (hc : 0 ≤ c) : Ok (bnd (itr FUEL (fun (x11 : Int × Int) s12 =>
fld s12 0 58 fun v14 =>
if x11.2 < v14 then (
lb (w32 (x11.1 * (k : Int))) fun v16 =>
some (.inl (v16, w32 (x11.2 + 1)), s12))
else
(some (.inr x11.1, s12) : Rs ((Int × Int) ⊕ Int))) (1, 0) τ) fun (y18 : Int) s19 =>
bnd (itr FUEL (fun (x21 : Int × Int) s22 =>
if x21.2 < y18 then (
bnd (fX12_isDry x21.2 c k s22) fun r24 s25 =>
if r24 = 0 then (
some (.inl (x21.1, w32 (x21.2 + 1)), s25))
else
lb (w32 (x21.1 + 1)) fun v27 =>
some (.inl (v27, w32 (x21.2 + 1)), s25))
else
(some (.inr x21.1, s22) : Rs ((Int × Int) ⊕ Int))) (0, 0) s19) fun (y29 : Int) s30 =>
(some (y29, s30) : Rs Int)) fun r τ' => Fm [38] [] τ τ' ∧ r = DW (τ 36) k m (fun _ => c) (2 ^ m - 1) := by
  have pb : ∀ f, f ≤ 8 → 1 ≤ k ^ f ∧ k ^ f ≤ 65536 := fun f hf => ⟨Nat.one_le_pow _ _ (by omega), Nat.le_trans (Nat.pow_le_pow_left hk.2 f) (Nat.le_trans (Nat.pow_le_pow_right (n := 4) (by decide) hf) (by decide))⟩
  rw [ko_bnd]
  refine for_ok m (fun f x t => τ = t ∧ x = (((k ^ f : Nat) : Int), (f : Int))) (by omega) ⟨rfl, by rw [Nat.pow_zero]; rfl⟩ ?_ ?_
  · rintro f x _ hf ⟨rfl, rfl⟩
    have p1 := pb (f + 1) (by omega)
    have wi := (wq4 (i := f) (by omega)).1
    have wp := Hd.m (show w32 (((k ^ f : Nat) : Int) * (k : Int)) = ((k ^ (f + 1) : Nat) : Int) by rw [← Int.natCast_mul, show k ^ f * k = k ^ (f + 1) from rfl, w32_sm (by omega)])
    dsimp only
    rw [ko_fld, w1, ko_t (by omega), ko_lb, ko_some, ko_jl, wp.o, wi.o]
    exact ⟨rfl, rfl⟩
  rintro x _ ⟨rfl, rfl⟩
  have pm := pb m hm
  dsimp only
  rw [ko_fld, w1, ko_f (Int.lt_irrefl _), ko_some, ko_jr, ko_bnd]
  have one : ∀ way, 0 ≤ okA (fun p => ldS (τ 36) k m way p) (fun _ => c) k ∧ okA (fun p => ldS (τ 36) k m way p) (fun _ => c) k ≤ 1 := by
    intro way
    generalize (fun p => ldS (τ 36) k m way p) = g
    clear hw hk hc pb pm
    induction k with
    | zero =>
      show (0 : Int) ≤ 1 ∧ (1 : Int) ≤ 1
      exact ⟨by decide, by decide⟩
    | succ k ih =>
      rw [okA]
      split
      · exact ih
      · exact ⟨by decide, by decide⟩
  refine for_ok (k ^ m) (fun i x t => Fm [38] [] τ t ∧ x = (smI (fun way => okA (fun p => ldS (τ 36) k m way p) (fun _ => c) k) i, (i : Int))) (by omega) ⟨Fm.rf, rfl⟩ ?_ ?_
  · rintro i x t hi ⟨ft, rfl⟩
    have wi := Hd.m (w32_nat (n := i) (by omega))
    have bd := smI_bd (f := fun way => okA (fun p => ldS (τ 36) k m way p) (fun _ => c) k) (B := 1) (n := i) fun j _ => one j
    have e36 : t 36 = τ 36 := ft.1 36 (by decide) (by decide)
    dsimp only
    rw [ko_t (by omega), ko_bnd]
    refine ok_mono (m_dry (τ := t) (way := i) (by rw [ft.2 58 (by decide)]; exact w1) hm (by rw [e36]; exact hw) hk (by omega) hc) ?_
    rintro r t2 ⟨f2, rfl⟩
    rw [e36]
    have o := one i
    by_cases z : okA (fun p => ldS (τ 36) k m i p) (fun _ => c) k = 0
    · rw [ko_t z, ko_some, ko_jl, wi.o]
      refine ⟨ft.tr f2, ?_⟩
      rw [smI, z, Int.add_zero]
    · rw [ko_f z, ko_lb, ko_some, ko_jl, wi.o, w32_sm (by omega)]
      refine ⟨ft.tr f2, ?_⟩
      rw [smI, show okA (fun p => ldS (τ 36) k m i p) (fun _ => c) k = 1 by omega]
  · rintro x t ⟨ft, rfl⟩
    dsimp only
    rw [ko_f (Int.lt_irrefl _), ko_some, ko_jr, ko_some]
    exact ⟨ft, N_DW hk.1 (fun i hi => by have := hw i hi; omega) fun _ _ => hc⟩
theorem sS_w {w w' : Int → Int} : ∀ {m S : Nat}, (∀ k : Nat, k < m → w k = w' k) → sS w m S = sS w' m S := by
  intro m
  induction m with
  | zero => intro S _; rfl
  | succ m ih => intro S h; rw [sS, sS, ih fun k hk => h k (by omega), h m (by omega)]
theorem PkS_w {w w' : Int → Int} {m : Nat} {room : Int} (h : ∀ k : Nat, k < m → w k = w' k) : ∀ {k S : Nat}, PkS w m room k S → PkS w' m room k S := by
  intro k
  induction k with
  | zero => intro S hS; exact hS
  | succ k ih =>
    rintro S ⟨q, q1, q2, q3, q4⟩
    exact ⟨q, q1, q2, by rw [← sS_w h]; exact q3, ih q4⟩
theorem GF_w {w w' : Int → Int} {m S : Nat} {room v : Int} (h : ∀ k : Nat, k < m → w k = w' k) (g : GF w m room v S) : GF w' m room v S := by
  rcases g with ⟨h1, h2⟩ | ⟨k, h1, h2, h3⟩
  · exact Or.inl ⟨h1, fun k hk => h2 k (PkS_w (fun i hi => (h i hi).symm) hk)⟩
  · exact Or.inr ⟨k, h1, PkS_w h h2, fun k' hk' => h3 k' (PkS_w (fun i hi => (h i hi).symm) hk')⟩
theorem DW_w {w w' : Int → Int} {k : Nat} : ∀ {m : Nat} {caps : Nat → Int} {S : Nat}, (∀ k : Nat, k < m → w k = w' k) → DW w k m caps S = DW w' k m caps S := by
  intro m
  induction m with
  | zero => intro caps S _; rfl
  | succ m ih =>
    intro caps S h
    have h' : ∀ k : Nat, k < m → w k = w' k := fun k hk => h k (by omega)
    rw [DW, DW, h m (by omega), ih h', smI_cong fun i _ => by rw [ih (caps := cut caps i (w' m)) h']]
theorem s_storm {σ τ : St} (h : Rl σ τ) {p1 p2 : Int} : Sim (fX11_storm p1 p2 σ) (fX12_storm p1 p2 τ) := by
  unfold fX12_storm
  refine sim_t0 h ?_
  clear h
  intro τ h
  refine Sim.of h ?_
  obtain ⟨⟨w0, w1, w2, w3⟩, w4⟩ := h.c_RFam
  simp only [Nat.reduceAdd] at w0 w1 w4
  clear h
  obtain ⟨m, hm⟩ : ∃ m : Nat, τ 0 58 = m := ⟨(τ 0 58).toNat, by omega⟩
  rw [hm] at w1 w2 w3 w4
  have hw : ∀ k : Nat, k < m → 1 ≤ τ 36 k ∧ τ 36 k ≤ 9 := fun k hk => (w4 k (by omega) (by omega)).2
  have eq : ∀ k : Nat, k < m → σ 35 k = τ 36 k := fun k hk => (w4 k (by omega) (by omega)).1
  have hwx : ∀ k : Nat, k < m → 1 ≤ σ 35 k ∧ σ 35 k ≤ 9 := fun k hk => by rw [eq k hk]; exact hw k hk
  unfold fX11_storm
  rw [within_eq, isIn_eq, bnd_some, bnd_some]
  by_cases c : 1 ≤ p1 ∧ p1 ≤ 30
  · rw [if_pos c, if_neg (show ¬ ((1 : Int) = 0) by decide), if_neg (show ¬ ((1 : Int) = 0) by decide)]
    by_cases d : p2 = -1
    · rw [if_pos d, if_pos d, bnx_inl, if_pos d]
      refine ok2_bnd (ok_mono (c_fewest w0 w1 (by omega) hwx) ?_)
      rintro r σ' ⟨fx, g⟩
      refine ok_mono (m_fewest hm (by omega) hw c) ?_
      rintro r' τ' ⟨fm, g'⟩
      rw [ok2_some]
      exact ⟨g'.uniq (GF_w eq g), fx.mono (by decide), fm.mono (by decide) (by decide)⟩
    · rw [if_neg d, if_neg d, within_eq, isIn_eq, bnd_some, bnd_some]
      by_cases e : 1 ≤ p2 ∧ p2 ≤ 4
      · obtain ⟨k, rfl⟩ : ∃ k : Nat, p2 = k := ⟨p2.toNat, by omega⟩
        rw [if_pos e, if_neg (show ¬ ((1 : Int) = 0) by decide), if_neg (show ¬ ((1 : Int) = 0) by decide), bnx_inl, if_neg d]
        refine ok2_l (ok_mono (c_stormWays (k := k) (room := p1) w0 w1 (by omega) hwx (by omega) (by omega)) ?_)
        rintro r σ' ⟨fx, g⟩
        refine ok2_left (ok_mono (m_ways (k := k) hm (by omega) hw (by omega) (by omega)) ?_)
        rintro r' τ' ⟨fm, g'⟩
        exact ⟨by rw [g, g', DW_w eq], fx.mono (by decide), fm.mono (by decide) (by decide)⟩
      · rw [if_neg e, if_pos rfl, if_pos rfl, bnx_inr, ok2_some]
        exact ⟨rfl, Fr.rf, Fm.rf⟩
  · rw [if_neg c, if_pos rfl, if_pos rfl, ok2_some]
    exact ⟨rfl, Fr.rf, Fm.rf⟩
