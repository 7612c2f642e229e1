/-! houses copied -/
theorem cpy_eq {β : Type} {σ : St} {k1 n1 k2 n2 : Nat} {sp dp n : Int} {g : St → Rs β} (h : 0 ≤ sp ∧ 0 ≤ dp ∧ 0 ≤ n ∧ sp + n ≤ n1 ∧ dp + n ≤ n2) : cpy σ k1 n1 sp k2 n2 dp n g = g (cp σ k1 sp k2 dp n) := if_pos h
def hcp (σ : St) (h h2 : Nat) : Nat → St
  | 0 => σ
  | n + 1 => cp (hcp σ h h2 n) (h2 + (n + 1)) 0 (h + (n + 1)) 0 (if n + 1 ≤ 5 then 12 else 20)
theorem hcp_ne {σ : St} {h h2 : Nat} : ∀ {n k : Nat}, ¬ (h < k ∧ k ≤ h + n) → hcp σ h h2 n k = σ k := by
  intro n
  induction n with
  | zero => intro k _; rfl
  | succ n ih =>
    intro k hk
    funext i
    show (if k = h + (n + 1) ∧ _ then _ else hcp σ h h2 n k i) = σ k i
    rw [if_neg (by omega), ih (by omega)]
theorem hcp_at {σ : St} {h h2 : Nat} (d : h2 + 13 < h ∨ h + 13 < h2) : ∀ {n c : Nat} {i : Int}, n ≤ 13 → 1 ≤ c → c ≤ n → 0 ≤ i → i < (if c ≤ 5 then 12 else 20) → hcp σ h h2 n (h + c) i = σ (h2 + c) i := by
  intro n
  induction n with
  | zero => intro c i _ h1 h2; omega
  | succ n ih =>
    intro c i hn c1 c2 i0 i1
    show (if h + c = h + (n + 1) ∧ 0 ≤ i ∧ i < 0 + (if n + 1 ≤ 5 then 12 else 20) then hcp σ h h2 n (h2 + (n + 1)) (0 + (i - 0)) else hcp σ h h2 n (h + c) i) = σ (h2 + c) i
    by_cases e : c = n + 1
    · subst e
      rw [if_pos ⟨rfl, i0, by omega⟩, hcp_ne (by omega), show (0 : Int) + (i - 0) = i by omega]
    · rw [if_neg (by omega)]
      exact ih (by omega) c1 (by omega) i0 i1
/-- the houses at h are those of h2, as far as they speak -/
def HC (σ σ' : St) (h h2 : Nat) : Prop := (∀ i, 0 ≤ i → i < 6 → σ' h i = σ h2 i) ∧ (∀ c i, 1 ≤ c → c ≤ 5 → 0 ≤ i → i < 12 → σ' (h + c) i = σ (h2 + c) i) ∧ ∀ c i, 6 ≤ c → c ≤ 13 → 0 ≤ i → i < 20 → σ' (h + c) i = σ (h2 + c) i
theorem copyH {h h2 : Nat} {σ : St} (d : h2 + 13 < h ∨ h + 13 < h2) : ∃ σ', fX2_copyFrom h h2 σ = some (0, σ') ∧ (∀ k, ¬ (h ≤ k ∧ k ≤ h + 13) → σ' k = σ k) ∧ HC σ σ' h h2 := by
  have ne : h2 ≠ h := by omega
  unfold fX2_copyFrom
  simp only [fld_eq, put_eq, up_ne ne]
  rw [cpy_eq (by decide), cpy_eq (by decide), cpy_eq (by decide), cpy_eq (by decide), cpy_eq (by decide), cpy_eq (by decide), cpy_eq (by decide), cpy_eq (by decide), cpy_eq (by decide), cpy_eq (by decide), cpy_eq (by decide), cpy_eq (by decide), cpy_eq (by decide)]
  have key : ∀ s : St, (∀ k, k ≠ h → s k = σ k) → (∀ i, 0 ≤ i → i < 6 → s h i = σ h2 i) → (∀ k, ¬ (h ≤ k ∧ k ≤ h + 13) → hcp s h h2 13 k = σ k) ∧ HC σ (hcp s h h2 13) h h2 := by
    intro s s1 s2
    refine ⟨fun k hk => ?_, fun i i0 i1 => ?_, fun c i c1 c2 i0 i1 => ?_, fun c i c1 c2 i0 i1 => ?_⟩
    · rw [hcp_ne (by omega)]
      exact s1 k (by omega)
    · rw [hcp_ne (by omega)]
      exact s2 i i0 i1
    · rw [hcp_at d (by decide) c1 (by omega) i0 (by rw [if_pos c2]; exact i1), s1 _ (by omega)]
    · rw [hcp_at d (by decide) (by omega) c2 i0 (by rw [if_neg (by omega)]; exact i1), s1 _ (by omega)]
  refine ⟨hcp (up (up (up (up (up (up σ h 0 (σ h2 0)) h 1 (σ h2 1)) h 2 (σ h2 2)) h 3 (σ h2 3)) h 4 (σ h2 4)) h 5 (σ h2 5)) h h2 13, rfl, key _ (fun k hk => ?_) (fun i i0 i1 => ?_)⟩
  · rw [up_ne hk, up_ne hk, up_ne hk, up_ne hk, up_ne hk, up_ne hk]
  · simp only [up_g, true_and]
    rcases (show i = 0 ∨ i = 1 ∨ i = 2 ∨ i = 3 ∨ i = 4 ∨ i = 5 by omega) with rfl | rfl | rfl | rfl | rfl | rfl <;> rfl
theorem RH.copy {σ σ' V : St} {h h2 : Nat} (h0 : RH σ h2 V) (c : HC σ σ' h h2) : RH σ' h V := by
  obtain ⟨⟨a1, a2, a3, a4, a5, a6⟩, ⟨b1, b2, b3, b4, b5, b6⟩, hp, hq⟩ := h0
  obtain ⟨c0, c1, c2⟩ := c
  refine ⟨⟨(c0 0 (by decide) (by decide)).trans a1, (c0 1 (by decide) (by decide)).trans a2, (c0 2 (by decide) (by decide)).trans a3, (c0 3 (by decide) (by decide)).trans a4, (c0 4 (by decide) (by decide)).trans a5, (c0 5 (by decide) (by decide)).trans a6⟩, ⟨b1, b2, b3, b4, b5, b6⟩, fun i i0 i1 => ?_, fun i i0 i1 => ?_⟩
  · obtain ⟨k1, k2, k3, k4, k5, k6⟩ := hp i i0 i1
    have t : i < 12 := by omega
    exact ⟨(c1 1 i (by decide) (by decide) i0 t).trans k1, (c1 2 i (by decide) (by decide) i0 t).trans k2, (c1 3 i (by decide) (by decide) i0 t).trans k3, (c1 4 i (by decide) (by decide) i0 t).trans k4, (c1 5 i (by decide) (by decide) i0 t).trans k5, k6⟩
  · obtain ⟨k1, k2, k3, k4, k5, k6, k7, k8, k9⟩ := hq i i0 i1
    have t : i < 20 := by omega
    exact ⟨(c2 6 i (by decide) (by decide) i0 t).trans k1, (c2 7 i (by decide) (by decide) i0 t).trans k2, (c2 8 i (by decide) (by decide) i0 t).trans k3, (c2 9 i (by decide) (by decide) i0 t).trans k4, (c2 10 i (by decide) (by decide) i0 t).trans k5, (c2 11 i (by decide) (by decide) i0 t).trans k6, (c2 12 i (by decide) (by decide) i0 t).trans k7, (c2 13 i (by decide) (by decide) i0 t).trans k8, k9⟩
theorem RH.gen {σ σ' V V' : St} {h : Nat} (h0 : RH σ h V) (x : ∀ k, h ≤ k → k ≤ h + 13 → σ' k = σ k) (m1 : ∀ i, 0 ≤ i → i < 161 → V' 1 i = V 1 i) (m4 : V' 4 = V 4) (m5 : V' 5 = V 5) (m6 : V' 6 = V 6) (j6 : V' 0 6 = V 0 6) (j7 : V' 0 7 = V 0 7) : RH σ' h V' := by
  obtain ⟨⟨a1, a2, a3, a4, a5, a6⟩, ⟨b1, b2, b3, b4, b5, b6⟩, hp, hq⟩ := h0
  have x0 := x h (by omega) (by omega)
  refine ⟨⟨?_, ?_, ?_, ?_, ?_, ?_⟩, by rw [j6, j7, m1 1 (by decide) (by decide)]; exact ⟨b1, b2, b3, b4, b5, b6⟩, fun i i0 i1 => ?_, fun i i0 i1 => ?_⟩
  · rw [x0, m1 2 (by decide) (by decide)]; exact a1
  · rw [x0, m1 1 (by decide) (by decide)]; exact a2
  · rw [x0, m1 0 (by decide) (by decide)]; exact a3
  · rw [x0, m1 4 (by decide) (by decide)]; exact a4
  · rw [x0, j6]; exact a5
  · rw [x0, j7]; exact a6
  · rw [j6] at i1
    exact (hp i i0 i1).cg (congrFun (x _ (by omega) (by omega)) i) (congrFun (x _ (by omega) (by omega)) i) (congrFun (x _ (by omega) (by omega)) i) (congrFun (x _ (by omega) (by omega)) i) (congrFun (x _ (by omega) (by omega)) i) (congrFun m4 i) (m1 _ (by omega) (by omega)) (m1 _ (by omega) (by omega)) (m1 _ (by omega) (by omega)) (by rw [j7]; exact cP_cong fun k hk => m1 _ (by omega) (by omega)) (Int.le_of_eq j7.symm)
  · rw [j7] at i1
    exact (hq i i0 i1).cg (congrFun (x _ (by omega) (by omega)) i) (congrFun (x _ (by omega) (by omega)) i) (congrFun (x _ (by omega) (by omega)) i) (congrFun (x _ (by omega) (by omega)) i) (congrFun (x _ (by omega) (by omega)) i) (congrFun (x _ (by omega) (by omega)) i) (congrFun (x _ (by omega) (by omega)) i) (congrFun (x _ (by omega) (by omega)) i) (congrFun m5 i) (congrFun m6 i) (m1 _ (by omega) (by omega)) (m1 _ (by omega) (by omega)) (m1 _ (by omega) (by omega)) (m1 _ (by omega) (by omega)) (m1 _ (by omega) (by omega)) (m1 _ (by omega) (by omega)) (Int.le_of_eq j6.symm)
theorem RU.le {σ τ τ' : St} (h : RU σ τ) (fm : ∀ k, k ≠ 1 → τ' k = τ k) (hl : τ 1 3 ≤ τ' 1 3) : RU σ τ' := by
  obtain ⟨h1, h2⟩ := h
  have e0 := fm 0 (by decide)
  have e2 := fm 2 (by decide)
  refine ⟨by rw [e0]; exact h1, fun j j0 j1 => ?_⟩
  rw [e0] at j1
  obtain ⟨r1, r2, r3, r4, r5⟩ := h2 j j0 j1
  rw [e0, e2]
  refine ⟨r1.gen (fun _ _ _ => rfl) (fun i _ _ => ?_) (fm 4 (by decide)) (fm 5 (by decide)) (fm 6 (by decide)) (congrFun e0 6) (congrFun e0 7), r2, r3, by omega, r5⟩
  show τ' 2 _ = τ 2 _
  rw [e2]
theorem Rl.mq {σ τ : St} (h : Rl σ τ) : MQm 0 σ τ := ⟨h.c_RH, h.c_RLaw, h.c_RCalls, h.c_REven, h.c_RStreet, h.c_RB, h.c_RS.1.2.2.1, h.c_RS.1.2.2.2, Or.inl rfl⟩
/-- a minute, or what is done by hand, keeps all else -/
theorem Rl.mv {σ τ σ' τ' : St} (h : Rl σ τ) (g : Mv 0 σ τ σ' τ') : Rl σ' τ' := by
  obtain ⟨q, fx, fm, hl, _⟩ := g
  obtain ⟨r1, r2, r3, r4, r5, r6, _, _, _⟩ := q
  have u1 : RU σ (fun k => if k = 1 then τ' 1 else τ k) := h.c_RU.le (fun k hk => if_neg hk) hl
  have u2 : RU σ' τ' := u1.cg (D := [7, 21, 22]) (J := []) fx ⟨fun k k0 kc => by
    show τ' k = if k = 1 then τ' 1 else τ k
    by_cases e : k = 1
    · rw [if_pos e, e]
    · rw [if_neg e]
      exact fm.1 k k0 fun hm => by
        simp only [List.mem_cons, List.not_mem_nil, or_false] at hm kc
        omega, fun i hi => by
    show τ' 0 i = τ 0 i
    exact fm.2 i hi⟩ (by decide)
  exact ⟨r1, r2, r3, r4, r5, h.c_RWish.cg fx fm (by decide), h.c_RChair.cg fx fm (by decide), h.c_RCat.cg fx fm (by decide), h.c_RFam.cg fx fm (by decide), h.c_RBoard.cg fx fm (by decide), h.c_RTalk.cg fx fm (by decide), h.c_RHalf.cg fx fm (by decide), h.c_RSwing.cg fx fm (by decide), h.c_RQuar.cg fx fm (by decide), r6, u2, h.c_RI.cg fx fm (by decide), h.c_RP.cg fx fm (by decide), h.c_RF.cg fx fm (by decide), h.c_RS.cg fx fm (by decide)⟩
