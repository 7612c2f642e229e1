/-! SEATED: one push -/
theorem bits_in {n s k : Nat} (hn : n ≤ 8) (hs : s < 2 ^ n) (hk : k < n) (c : s.testBit k = false) : s + 2 ^ k < 2 ^ n := by
  obtain ⟨_, p2⟩ := pow8 hn
  rw [← ((bits8 s (by omega) k (by omega)).2 c).1]
  exact Nat.or_lt_two_pow hs (Nat.pow_lt_pow_right (by decide) hk)
theorem seI_at {E : Nat → Nat → Bool} {T : Int → Int} {n V L N : Nat} {r : Int} {R : Int → Int} (hn : n ≤ 8) (ht : seT E T n r (2 ^ n)) (hi : seI E T n r V L N R) (h1 : 1 ≤ V) (h2 : V < 2 ^ n) (hL : L < n) : R ((V * 8 + L : Nat) : Int) = T ((V * 8 + L : Nat) : Int) := by
  rw [hi V L h1 h2 hL, ht V L h1 h2 hL]
  unfold seV seR
  have := Nat.two_pow_pos L
  rw [show seG n V L N (V - 2 ^ L) L = n from if_pos (by omega)]
theorem seI_skip {E : Nat → Nat → Bool} {T : Int → Int} {n V L N : Nat} {r : Int} {R : Int → Int} (hn : n ≤ 8) (hi : seI E T n r V L N R) (h2 : V < 2 ^ n) (hN : N < n) (hc : V.testBit N = true ∨ E N L = true) : seI E T n r V L (N + 1) R := by
  intro s k s1 s2 hk
  obtain ⟨_, p2⟩ := pow8 hn
  rw [hi s k s1 s2 hk]
  refine seV_cong fun hb hv => ?_
  obtain ⟨b1, b2⟩ := (bits8 s (by omega) k (by omega)).1 hb
  unfold seG
  by_cases d1 : s - 2 ^ k < V
  · rw [if_pos d1, if_pos d1]
  · rw [if_neg d1, if_neg d1]
    by_cases d2 : s - 2 ^ k = V
    · rw [if_pos d2, if_pos d2]
      rw [d2] at b2
      by_cases d3 : k = N
      · subst d3
        rw [if_neg (Nat.lt_irrefl k), if_pos (Nat.lt_succ_self k)]
        rcases hc with hc | hc
        · rw [b2] at hc; cases hc
        · rw [seS, if_pos hc]
      · by_cases d4 : k < N
        · rw [if_pos d4, if_pos (by omega)]
        · rw [if_neg d4, if_neg (by omega)]
    · rw [if_neg d2, if_neg d2]
theorem seI_push {E : Nat → Nat → Bool} {T : Int → Int} {n V L N : Nat} {r : Int} {τ : St} (hn : n ≤ 8) (ht : seT E T n r (2 ^ n)) (hi : seI E T n r V L N (τ 47)) (h1 : 1 ≤ V) (h2 : V < 2 ^ n) (hL : L < n) (hN : N < n) (hc : V.testBit N = false) (he : E N L = false) :
    seI E T n r V L (N + 1) (up τ 47 (((V + 2 ^ N) * 8 + N : Nat) : Int) (w32 (τ 47 (((V + 2 ^ N) * 8 + N : Nat) : Int) + τ 47 ((V * 8 + L : Nat) : Int))) 47) := by
  intro s k s1 s2 hk
  obtain ⟨_, p2⟩ := pow8 hn
  have hin := bits_in hn h2 hN hc
  obtain ⟨c1, c2⟩ := (bits8 V (by omega) N (by omega)).2 hc
  have pN := Nat.two_pow_pos N
  rw [up_at]
  by_cases e : s = V + 2 ^ N ∧ k = N
  · obtain ⟨rfl, rfl⟩ := e
    rw [if_pos rfl, seI_at hn ht hi h1 h2 hL, hi _ _ s1 s2 hk]
    unfold seV
    have hT : ¬ (true = false) := by decide
    have hV : ¬ (V = 0) := by omega
    rw [c2, if_neg hT, if_neg hT, Nat.add_sub_cancel, if_neg hV, if_neg hV]
    unfold seG
    rw [if_neg (Nat.lt_irrefl V), if_neg (Nat.lt_irrefl V), if_pos rfl, if_pos rfl, if_neg (Nat.lt_irrefl k), if_pos (Nat.lt_succ_self k), seS, he, if_neg (by decide)]
  · have e1 : ¬ (s * 8 + k = (V + 2 ^ N) * 8 + N) := by
      generalize 2 ^ N = p at *
      omega
    rw [if_neg (fun h => e1 (Int.natCast_inj.mp h)), hi s k s1 s2 hk]
    refine seV_cong fun hb hv => ?_
    obtain ⟨b1, b2⟩ := (bits8 s (by omega) k (by omega)).1 hb
    unfold seG
    by_cases d1 : s - 2 ^ k < V
    · rw [if_pos d1, if_pos d1]
    · rw [if_neg d1, if_neg d1]
      by_cases d2 : s - 2 ^ k = V
      · rw [if_pos d2, if_pos d2]
        by_cases d3 : k = N
        · subst d3
          exact absurd ⟨by omega, rfl⟩ e
        · by_cases d4 : k < N
          · rw [if_pos d4, if_pos (by omega)]
          · rw [if_neg d4, if_neg (by omega)]
      · rw [if_neg d2, if_neg d2]
theorem seI_last {E : Nat → Nat → Bool} {T : Int → Int} {n V L : Nat} {r : Int} {R : Int → Int} (hi : seI E T n r V L n R) : seI E T n r V (L + 1) 0 R := by
  intro s k s1 s2 hk
  rw [hi s k s1 s2 hk]
  refine seV_cong fun hb hv => ?_
  unfold seG
  rw [if_pos hk, if_neg (Nat.not_lt_zero k)]
theorem seI_set {E : Nat → Nat → Bool} {T : Int → Int} {n V : Nat} {r : Int} {R : Int → Int} (hi : seI E T n r V n 0 R) : seI E T n r (V + 1) 0 0 R := by
  intro s k s1 s2 hk
  rw [hi s k s1 s2 hk]
  refine seV_cong fun hb hv => ?_
  unfold seG
  rw [if_neg (Nat.not_lt_zero k)]
  by_cases d1 : s - 2 ^ k < V
  · rw [if_pos d1, if_pos (by omega)]
  · rw [if_neg d1]
    by_cases d2 : s - 2 ^ k = V
    · rw [if_pos d2, if_pos (by omega)]
    · rw [if_neg d2, if_neg (by omega)]
      by_cases d3 : s - 2 ^ k = V + 1
      · rw [if_pos d3, if_neg (Nat.not_lt_zero k)]
      · rw [if_neg d3]
theorem seI_first {E : Nat → Nat → Bool} {T : Int → Int} {n : Nat} {r : Int} {R : Int → Int} (hn : n ≤ 8) (h : ∀ s k : Nat, s < 256 → k < 8 → R ((s * 8 + k : Nat) : Int) = if k < n ∧ s = 2 ^ k then seB r k else 0) : seI E T n r 1 0 0 R := by
  intro s k s1 s2 hk
  obtain ⟨_, p2⟩ := pow8 hn
  rw [h s k (by omega) (by omega)]
  obtain ⟨b1, b2⟩ := bits8 s (by omega) k (by omega)
  have bp : Nat.testBit (2 ^ k) k = true := by rw [Nat.testBit_two_pow]; simp
  have pk := Nat.two_pow_pos k
  unfold seV
  by_cases c : s.testBit k = true
  · obtain ⟨b3, b4⟩ := b1 c
    rw [c, if_neg (show ¬ (true = false) by decide)]
    by_cases d : s = 2 ^ k
    · rw [if_pos ⟨hk, d⟩, if_pos (by omega)]
    · rw [if_neg (fun q => d q.2), if_neg (by omega)]
      rw [show seG n 1 0 0 (s - 2 ^ k) k = 0 by unfold seG; rw [if_neg (by omega), if_neg (Nat.not_lt_zero k)]; split <;> rfl]
      rfl
  · rw [if_pos (show s.testBit k = false by simpa using c), if_neg (fun q => c (by rw [q.2]; exact bp))]
