/-! LAST: ways along the street -/
/-- a line of the street between two, either way -/
def wkE (C : Int → Int) (L : Nat) (u v w : Int) : Prop := ∃ k : Nat, k < L ∧ ((C ((k : Int) * 4) = u ∧ C ((k : Int) * 4 + 1) = v) ∨ (C ((k : Int) * 4) = v ∧ C ((k : Int) * 4 + 1) = u)) ∧ C ((k : Int) * 4 + 2) = w
/-- a way of so many lines, and how long -/
def wd (C : Int → Int) (L : Nat) (s : Int) : Nat → Int → Int → Prop
  | 0, v, d => v = s ∧ d = 0
  | k + 1, v, d => ∃ u d' w, wd C L s k u d' ∧ wkE C L u v w ∧ d = d' + w
def sett (C : Int → Int) (L : Nat) (s : Int) (V : Int → Int) (v : Int) : Prop := ∀ k d, wd C L s k v d → V v ≤ d
def cnB (f : Nat → Bool) : Nat → Nat
  | 0 => 0
  | n + 1 => cnB f n + (f n).toNat
theorem cnB_le {f : Nat → Bool} : ∀ n, cnB f n ≤ n := by
  intro n
  induction n with
  | zero => exact Nat.le_refl 0
  | succ n ih =>
    rw [cnB]
    have : (f n).toNat ≤ 1 := by cases f n <;> decide
    omega
theorem cnB_full {f : Nat → Bool} : ∀ {n : Nat}, cnB f n = n → ∀ v, v < n → f v = true := by
  intro n
  induction n with
  | zero => intro _ v hv; omega
  | succ n ih =>
    intro h v hv
    rw [cnB] at h
    have h1 := cnB_le (f := f) n
    have h2 : (f n).toNat ≤ 1 := by cases f n <;> decide
    by_cases e : v = n
    · rw [e]
      cases hf : f n with
      | true => rfl
      | false => rw [hf] at h; simp at h; omega
    · exact ih (by omega) v (by omega)
theorem cnB_all {f : Nat → Bool} : ∀ {n : Nat}, (∀ v, v < n → f v = true) → cnB f n = n := by
  intro n
  induction n with
  | zero => intro _; rfl
  | succ n ih =>
    intro h
    rw [cnB, ih fun v hv => h v (by omega), h n (by omega)]
    rfl
theorem cnB_mono {f g : Nat → Bool} : ∀ {n : Nat}, (∀ v, v < n → f v = true → g v = true) → cnB f n ≤ cnB g n := by
  intro n
  induction n with
  | zero => intro _; exact Nat.le_refl 0
  | succ n ih =>
    intro h
    rw [cnB, cnB]
    have h1 := ih fun v hv => h v (by omega)
    have h2 : (f n).toNat ≤ (g n).toNat := by
      cases hf : f n with
      | false => exact Nat.zero_le _
      | true => rw [h n (by omega) hf]; decide
    omega
theorem cnB_lt {f g : Nat → Bool} : ∀ {n : Nat}, (∀ v, v < n → f v = true → g v = true) → (∃ v, v < n ∧ f v = false ∧ g v = true) → cnB f n < cnB g n := by
  intro n
  induction n with
  | zero => rintro _ ⟨v, hv, _⟩; omega
  | succ n ih =>
    rintro h ⟨v, hv, hf, hg⟩
    rw [cnB, cnB]
    by_cases e : v = n
    · subst e
      have h1 := cnB_mono (f := f) (g := g) (n := v) fun x hx => h x (by omega)
      rw [hf, hg]
      show cnB f v + 0 < cnB g v + 1
      omega
    · have h1 := ih (fun x hx => h x (by omega)) ⟨v, by omega, hf, hg⟩
      have h2 : (f n).toNat ≤ (g n).toNat := by
        cases hf : f n with
        | false => exact Nat.zero_le _
        | true => rw [h n (by omega) hf]; decide
      omega
noncomputable def stc (C : Int → Int) (L : Nat) (s : Int) (V : Int → Int) (n : Nat) : Nat := cnB (fun v => @decide (sett C L s V v) (Classical.propDecidable _)) n
def wkOk (C : Int → Int) (L n : Nat) : Prop := ∀ u v w, wkE C L u v w → (0 ≤ u ∧ u < n) ∧ (0 ≤ v ∧ v < n) ∧ 1 ≤ w ∧ w ≤ 99
theorem wd_nn {C : Int → Int} {L n : Nat} {s : Int} (hw : wkOk C L n) (hs : 0 ≤ s ∧ s < n) : ∀ {k : Nat} {v d : Int}, wd C L s k v d → 0 ≤ d ∧ 0 ≤ v ∧ v < n := by
  intro k
  induction k with
  | zero => rintro v d ⟨rfl, rfl⟩; exact ⟨by decide, hs⟩
  | succ k ih =>
    rintro v d ⟨u, d', w, h1, h2, rfl⟩
    have := ih h1
    have := hw _ _ _ h2
    omega
theorem stc_grow {C : Int → Int} {L n : Nat} {s : Int} {V V' : Int → Int} (hw : wkOk C L n) (hs : 0 ≤ s ∧ s < n) (hA : ∀ v : Int, 0 ≤ v → v < (n : Int) → V' v ≤ V v) (hB : ∀ u v w, wkE C L u v w → V' v ≤ V u + w) (h0 : V s ≤ 0) : stc C L s V n = n ∨ stc C L s V n < stc C L s V' n := by
  have key : ∀ D : Nat, ∀ v k d, wd C L s k v d → d < V v → d = (D : Int) → ∃ x : Nat, x < n ∧ ¬ sett C L s V x ∧ sett C L s V' x := by
    intro D
    induction D using Nat.strongRecOn with
    | ind D ih =>
      intro v k d hd hv e
      have hn := wd_nn hw hs hd
      by_cases c : ∃ v2 k2 d2, wd C L s k2 v2 d2 ∧ d2 < V v2 ∧ d2 < d
      · obtain ⟨v2, k2, d2, h1, h2, h3⟩ := c
        have hn2 := wd_nn hw hs h1
        exact ih d2.toNat (by omega) v2 k2 d2 h1 h2 (by omega)
      · refine ⟨v.toNat, by omega, ?_, ?_⟩
        · rw [Int.toNat_of_nonneg hn.2.1]
          intro q
          have := q k d hd
          omega
        · rw [Int.toNat_of_nonneg hn.2.1]
          cases k with
          | zero =>
            obtain ⟨e1, e2⟩ := hd
            rw [e1] at hv
            omega
          | succ k =>
            obtain ⟨u, d', w, h1, h2, h3⟩ := hd
            have w1 := (hw _ _ _ h2).2.2.1
            have hu : V u ≤ d' := by
              by_cases q : V u ≤ d'
              · exact q
              · exact absurd ⟨u, k, d', h1, by omega, by omega⟩ c
            have hv' : V' v ≤ d := by
              have := hB _ _ _ h2
              omega
            intro k2 d2 h4
            by_cases q : V' v ≤ d2
            · exact q
            · have := hA v hn.2.1 hn.2.2
              exact absurd ⟨v, k2, d2, h4, by omega, by omega⟩ c
  by_cases a : ∀ v : Nat, v < n → sett C L s V v
  · left
    exact cnB_all fun v hv => @decide_eq_true _ (Classical.propDecidable _) (a v hv)
  · right
    obtain ⟨x, x1, x2, x3⟩ : ∃ x : Nat, x < n ∧ ¬ sett C L s V x ∧ sett C L s V' x := by
      have : ∃ v : Nat, v < n ∧ ¬ sett C L s V v := by
        apply Classical.byContradiction
        intro q
        apply a
        intro v hv
        apply Classical.byContradiction
        intro q2
        exact q ⟨v, hv, q2⟩
      obtain ⟨v, hv, hq⟩ := this
      have : ∃ k d, wd C L s k v d ∧ d < V v := by
        apply Classical.byContradiction
        intro q
        apply hq
        intro k d hd
        apply Classical.byContradiction
        intro q2
        exact q ⟨k, d, hd, by omega⟩
      obtain ⟨k, d, hd, hl⟩ := this
      have := wd_nn hw hs hd
      exact key d.toNat v k d hd hl (by omega)
    refine cnB_lt (fun v hv hf => ?_) ⟨x, x1, @decide_eq_false _ (Classical.propDecidable _) x2, @decide_eq_true _ (Classical.propDecidable _) x3⟩
    have hf := @of_decide_eq_true _ (Classical.propDecidable _) hf
    refine @decide_eq_true _ (Classical.propDecidable _) fun k d hd => ?_
    have h1 := hf k d hd
    have h2 := hA v (by omega) (by omega)
    omega
theorem stc_full {C : Int → Int} {L n : Nat} {s : Int} {V : Int → Int} (h : stc C L s V n = n) {v : Int} (v0 : 0 ≤ v) (v1 : v < n) : sett C L s V v := by
  have := @of_decide_eq_true _ (Classical.propDecidable _) (cnB_full h v.toNat (by omega))
  rwa [Int.toNat_of_nonneg v0] at this
/-- how far all are, none of it made up -/
def LV (C : Int → Int) (L n : Nat) (s : Int) (B : Int) (V : Int → Int) : Prop := ∀ v : Int, 0 ≤ v → v < (n : Int) → V v = 100000000 ∨ (0 ≤ V v ∧ V v ≤ B ∧ ∃ k, wd C L s k v (V v))
def rlx (V : Int → Int) (u v w x : Int) : Int := if x = v then imn (V v) (V u + w) else V x
theorem rlx_le {V : Int → Int} {u v w : Int} : (∀ x, rlx V u v w x ≤ V x) ∧ rlx V u v w v ≤ V u + w := by
  refine ⟨fun x => ?_, ?_⟩
  · unfold rlx imn
    split
    · next e => rw [e]; split <;> omega
    · exact Int.le_refl _
  · unfold rlx imn
    rw [if_pos rfl]
    split <;> omega
theorem LV.rlx {C : Int → Int} {L n : Nat} {s B : Int} {V : Int → Int} (h : LV C L n s B V) (hw : wkOk C L n) {u v w : Int} (he : wkE C L u v w) (hB : 0 ≤ B ∧ B ≤ 10000000) : LV C L n s (B + 99) (rlx V u v w) := by
  obtain ⟨hu, hv, w1, w2⟩ := hw _ _ _ he
  intro x x0 x1
  unfold Jvm.Pilot.@@N@@.rlx
  by_cases e : x = v
  · rw [if_pos e]
    subst e
    unfold imn
    by_cases c : V u + w < V x
    · rw [if_pos c]
      right
      rcases h u hu.1 hu.2 with a | ⟨a1, a2, k, a3⟩
      · rcases h x x0 x1 with b | ⟨b1, b2, _⟩ <;> omega
      · exact ⟨by omega, by omega, k + 1, u, V u, w, a3, he, rfl⟩
    · rw [if_neg c]
      rcases h x x0 x1 with a | ⟨a1, a2, a3⟩
      · exact Or.inl a
      · exact Or.inr ⟨a1, by omega, a3⟩
  · rw [if_neg e]
    rcases h x x0 x1 with a | ⟨a1, a2, a3⟩
    · exact Or.inl a
    · exact Or.inr ⟨a1, by omega, a3⟩
theorem LV.cong {C : Int → Int} {L n : Nat} {s B B' : Int} {V V' : Int → Int} (h : LV C L n s B V) (hB : B ≤ B') (e : ∀ x : Int, 0 ≤ x → x < (n : Int) → V' x = V x) : LV C L n s B' V' := by
  intro x x0 x1
  rw [e x x0 x1]
  rcases h x x0 x1 with a | ⟨a1, a2, a3⟩
  · exact Or.inl a
  · exact Or.inr ⟨a1, by omega, a3⟩
theorem LV.le {C : Int → Int} {L n : Nat} {s B B' : Int} {V V' : Int → Int} (h : LV C L n s B V) (h' : LV C L n s B' V') (hB : B ≤ 10000000) (hB' : B' ≤ 10000000) (hs : ∀ v : Int, 0 ≤ v → v < (n : Int) → sett C L s V v) : ∀ v : Int, 0 ≤ v → v < (n : Int) → V v ≤ V' v := by
  intro v v0 v1
  rcases h' v v0 v1 with a | ⟨a1, a2, k, a3⟩
  · rcases h v v0 v1 with b | ⟨b1, b2, _⟩ <;> omega
  · exact hs v v0 v1 k _ a3
/-- the shortest line between two is a line -/
theorem fm_line {C : Int → Int} {a b : Int} : ∀ {n : Nat}, (∀ k : Nat, k < n → 1 ≤ C ((k : Int) * 4 + 2)) → (fm n C a b ≠ 0 → wkE C n a b (fm n C a b)) ∧ ∀ w, wkE C n a b w → 1 ≤ fm n C a b ∧ fm n C a b ≤ w := by
  intro n
  induction n with
  | zero => exact fun _ => ⟨fun h => absurd rfl h, fun w ⟨k, hk, _⟩ => by omega⟩
  | succ n ih =>
    intro hC
    obtain ⟨i1, i2⟩ := ih fun k hk => hC k (by omega)
    have p := fm_pos (a := a) (b := b) (n := n) fun k hk => hC k (by omega)
    have cn := hC n (by omega)
    have up : ∀ w, wkE C n a b w → wkE C (n + 1) a b w := fun w ⟨k, h1, h2⟩ => ⟨k, by omega, h2⟩
    rw [fm]
    by_cases c : (C ((n : Int) * 4) = a ∧ C ((n : Int) * 4 + 1) = b) ∨ (C ((n : Int) * 4) = b ∧ C ((n : Int) * 4 + 1) = a)
    · have now : wkE C (n + 1) a b (C ((n : Int) * 4 + 2)) := ⟨n, by omega, c, rfl⟩
      rw [if_pos c]
      by_cases d : fm n C a b = 0 ∨ C ((n : Int) * 4 + 2) < fm n C a b
      · rw [if_pos d]
        refine ⟨fun _ => now, fun w ⟨k, h1, h2, h3⟩ => ?_⟩
        by_cases e : k = n
        · rw [e] at h3
          omega
        · have := i2 w ⟨k, by omega, h2, h3⟩
          omega
      · rw [if_neg d]
        refine ⟨fun h => up _ (i1 h), fun w ⟨k, h1, h2, h3⟩ => ?_⟩
        by_cases e : k = n
        · rw [e] at h3
          omega
        · exact i2 w ⟨k, by omega, h2, h3⟩
    · rw [if_neg c]
      refine ⟨fun h => up _ (i1 h), fun w ⟨k, h1, h2, h3⟩ => ?_⟩
      by_cases e : k = n
      · rw [e] at h2
        exact absurd h2 c
      · exact i2 w ⟨k, by omega, h2, h3⟩
