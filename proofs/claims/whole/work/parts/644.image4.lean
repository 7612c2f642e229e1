/-! IMAGE -/
theorem TCr.same {σ σ' : St} {r : Nat} (e0 : σ' r = σ r) (e1 : σ' (r + 1) = σ (r + 1)) : TCr σ σ' r r := ⟨by rw [e0], by rw [e0], fun i _ _ => by rw [e1]⟩
theorem HC.same {σ σ' : St} {h : Nat} (e : ∀ k, h ≤ k → k ≤ h + 13 → σ' k = σ k) : HC σ σ' h h := ⟨fun i _ _ => by rw [e h (by omega) (by omega)], fun c i c1 c2 _ _ => by rw [e (h + c) (by omega) (by omega)], fun c i c1 c2 _ _ => by rw [e (h + c) (by omega) (by omega)]⟩
theorem TCr.to {σ σ1 σ' : St} {ro r2 : Nat} (h : TCr σ1 σ' ro r2) (e0 : σ1 r2 = σ r2) (e1 : σ1 (r2 + 1) = σ (r2 + 1)) : TCr σ σ' ro r2 := by
  obtain ⟨a, b, c⟩ := h
  rw [e0] at a b c
  rw [e1] at c
  exact ⟨a, b, c⟩
theorem TCr.on {σ σ1 σ' : St} {ro r2 : Nat} (h : TCr σ σ1 ro r2) (e0 : σ' ro = σ1 ro) (e1 : σ' (ro + 1) = σ1 (ro + 1)) : TCr σ σ' ro r2 := by
  obtain ⟨a, b, c⟩ := h
  exact ⟨by rw [e0]; exact a, by rw [e0]; exact b, fun i i0 i1 => by rw [e1]; exact c i i0 i1⟩
theorem HC.on {σ σ1 σ' : St} {h h2 : Nat} (c : HC σ σ1 h h2) (e : ∀ k, h ≤ k → k ≤ h + 13 → σ' k = σ1 k) : HC σ σ' h h2 := ⟨fun i i0 i1 => by rw [e h (by omega) (by omega)]; exact c.1 i i0 i1, fun x i c1 c2 i0 i1 => by rw [e (h + x) (by omega) (by omega)]; exact c.2.1 x i c1 c2 i0 i1, fun x i c1 c2 i0 i1 => by rw [e (h + x) (by omega) (by omega)]; exact c.2.2 x i c1 c2 i0 i1⟩
/-- all rows that are told, gone over -/
def TCa (σ σ' : St) (T T2 : Nat) : Prop := TCr σ σ' (T + 1) (T2 + 1) ∧ TCr σ σ' (T + 3) (T2 + 3) ∧ TCr σ σ' (T + 5) (T2 + 5) ∧ TCr σ σ' (T + 7) (T2 + 7) ∧ TCr σ σ' (T + 9) (T2 + 9) ∧ TCr σ σ' (T + 11) (T2 + 11) ∧ TCr σ σ' (T + 13) (T2 + 13) ∧ TCr σ σ' (T + 15) (T2 + 15) ∧ TCr σ σ' (T + 17) (T2 + 17) ∧ TCr σ σ' (T + 19) (T2 + 19) ∧ TCr σ σ' (T + 21) (T2 + 21) ∧ TCr σ σ' (T + 23) (T2 + 23) ∧ TCr σ σ' (T + 25) (T2 + 25) ∧ TCr σ σ' (T + 27) (T2 + 27) ∧ TCr σ σ' (T + 29) (T2 + 29) ∧ TCr σ σ' (T + 31) (T2 + 31)
theorem core.cv {σ σ' V V' : St} {h t d h2 t2 d2 : Nat} (c : core σ h2 t2 d2 V) (ch : HC σ σ' h h2) (ct : TCa σ σ' t t2) (cd : TCr σ σ' d d2) (v : VC V V') : core σ' h t d V' := by
  obtain ⟨a1, a2, a3, a4, a5, a6, a7, a8, a9, a10, a11, a12, a13, a14, a15⟩ := c
  obtain ⟨c1, c3, c5, c7, c9, c11, c13, c15, c17, c19, c21, c23, c25, c27, c29, c31⟩ := ct
  exact ⟨a1.cv ch v, a2.cv c1 c3 v, a3.cv c5 v, a4.cv c7 v, a5.cv c9 v, a6.cv c11 v, a7.cv c13 v, a8.cv c15 v, a9.cv c17 v, a10.cv c19 v, a11.cv c21 v, a12.cv c23 c25 c27 v, a13.cv c29 v, a14.cv c31 v, a15.cv cd v⟩
theorem TCa.of {σ σ1 σ' : St} {T T2 : Nat} (h : TCa σ σ1 T T2) (e : ∀ k, T + 1 ≤ k → k ≤ T + 32 → σ' k = σ1 k) : TCa σ σ' T T2 := by
  obtain ⟨c1, c3, c5, c7, c9, c11, c13, c15, c17, c19, c21, c23, c25, c27, c29, c31⟩ := h
  exact ⟨c1.on (e _ (by omega) (by omega)) (e _ (by omega) (by omega)), c3.on (e _ (by omega) (by omega)) (e _ (by omega) (by omega)), c5.on (e _ (by omega) (by omega)) (e _ (by omega) (by omega)), c7.on (e _ (by omega) (by omega)) (e _ (by omega) (by omega)), c9.on (e _ (by omega) (by omega)) (e _ (by omega) (by omega)), c11.on (e _ (by omega) (by omega)) (e _ (by omega) (by omega)), c13.on (e _ (by omega) (by omega)) (e _ (by omega) (by omega)), c15.on (e _ (by omega) (by omega)) (e _ (by omega) (by omega)), c17.on (e _ (by omega) (by omega)) (e _ (by omega) (by omega)), c19.on (e _ (by omega) (by omega)) (e _ (by omega) (by omega)), c21.on (e _ (by omega) (by omega)) (e _ (by omega) (by omega)), c23.on (e _ (by omega) (by omega)) (e _ (by omega) (by omega)), c25.on (e _ (by omega) (by omega)) (e _ (by omega) (by omega)), c27.on (e _ (by omega) (by omega)) (e _ (by omega) (by omega)), c29.on (e _ (by omega) (by omega)) (e _ (by omega) (by omega)), c31.on (e _ (by omega) (by omega)) (e _ (by omega) (by omega))⟩
theorem TCa.from {σ σ1 σ' : St} {T T2 : Nat} (h : TCa σ1 σ' T T2) (e : ∀ k, T2 + 1 ≤ k → k ≤ T2 + 32 → σ1 k = σ k) : TCa σ σ' T T2 := by
  obtain ⟨c1, c3, c5, c7, c9, c11, c13, c15, c17, c19, c21, c23, c25, c27, c29, c31⟩ := h
  exact ⟨c1.to (e _ (by omega) (by omega)) (e _ (by omega) (by omega)), c3.to (e _ (by omega) (by omega)) (e _ (by omega) (by omega)), c5.to (e _ (by omega) (by omega)) (e _ (by omega) (by omega)), c7.to (e _ (by omega) (by omega)) (e _ (by omega) (by omega)), c9.to (e _ (by omega) (by omega)) (e _ (by omega) (by omega)), c11.to (e _ (by omega) (by omega)) (e _ (by omega) (by omega)), c13.to (e _ (by omega) (by omega)) (e _ (by omega) (by omega)), c15.to (e _ (by omega) (by omega)) (e _ (by omega) (by omega)), c17.to (e _ (by omega) (by omega)) (e _ (by omega) (by omega)), c19.to (e _ (by omega) (by omega)) (e _ (by omega) (by omega)), c21.to (e _ (by omega) (by omega)) (e _ (by omega) (by omega)), c23.to (e _ (by omega) (by omega)) (e _ (by omega) (by omega)), c25.to (e _ (by omega) (by omega)) (e _ (by omega) (by omega)), c27.to (e _ (by omega) (by omega)) (e _ (by omega) (by omega)), c29.to (e _ (by omega) (by omega)) (e _ (by omega) (by omega)), c31.to (e _ (by omega) (by omega)) (e _ (by omega) (by omega))⟩
theorem TCa.same {σ σ' : St} {T : Nat} (e : ∀ k, T + 1 ≤ k → k ≤ T + 32 → σ' k = σ k) : TCa σ σ' T T := by
  have r : ∀ r, 1 ≤ r → r ≤ 31 → TCr σ σ' (T + r) (T + r) := fun r h1 h2 => TCr.same (e _ (by omega) (by omega)) (e _ (by omega) (by omega))
  exact ⟨r 1 (by decide) (by decide), r 3 (by decide) (by decide), r 5 (by decide) (by decide), r 7 (by decide) (by decide), r 9 (by decide) (by decide), r 11 (by decide) (by decide), r 13 (by decide) (by decide), r 15 (by decide) (by decide), r 17 (by decide) (by decide), r 19 (by decide) (by decide), r 21 (by decide) (by decide), r 23 (by decide) (by decide), r 25 (by decide) (by decide), r 27 (by decide) (by decide), r 29 (by decide) (by decide), r 31 (by decide) (by decide)⟩
theorem Rl.core {σ τ : St} (h : Rl σ τ) : core σ 3 17 50 τ := ⟨h.c_RH, h.c_RLaw, h.c_RCalls, h.c_REven, h.c_RStreet, h.c_RWish, h.c_RChair, h.c_RCat, h.c_RFam, h.c_RBoard, h.c_RTalk, h.c_RHalf, h.c_RSwing, h.c_RQuar, h.c_RB⟩
/-- the bounds of what is told -/
theorem core.bd {σ V : St} {h t d : Nat} (c : core σ h t d V) : (σ (t + 1) 0 = 4 ∧ 0 ≤ σ (t + 1) 2 ∧ σ (t + 1) 2 ≤ 16) ∧ (σ (t + 3) 0 = 1 ∧ 0 ≤ σ (t + 3) 2 ∧ σ (t + 3) 2 ≤ 400) ∧ (σ (t + 5) 0 = 4 ∧ 0 ≤ σ (t + 5) 2 ∧ σ (t + 5) 2 ≤ 16) ∧ (σ (t + 7) 0 = 4 ∧ 0 ≤ σ (t + 7) 2 ∧ σ (t + 7) 2 ≤ 16) ∧ (σ (t + 9) 0 = 4 ∧ 0 ≤ σ (t + 9) 2 ∧ σ (t + 9) 2 ≤ 16) ∧ (σ (t + 11) 0 = 5 ∧ σ (t + 11) 2 = 10) ∧ (σ (t + 13) 0 = 2 ∧ 0 ≤ σ (t + 13) 2 ∧ σ (t + 13) 2 ≤ 5) ∧ (σ (t + 15) 0 = 4 ∧ 0 ≤ σ (t + 15) 2 ∧ σ (t + 15) 2 ≤ 12) ∧ (σ (t + 17) 0 = 1 ∧ 0 ≤ σ (t + 17) 2 ∧ σ (t + 17) 2 ≤ 8) ∧ (σ (t + 19) 0 = 1 ∧ 0 ≤ σ (t + 19) 2 ∧ σ (t + 19) 2 ≤ 12) ∧ (σ (t + 21) 0 = 1 ∧ 0 ≤ σ (t + 21) 2 ∧ σ (t + 21) 2 ≤ 24) ∧ (σ (t + 23) 0 = 1 ∧ 0 ≤ σ (t + 23) 2 ∧ σ (t + 23) 2 ≤ 12) ∧ (σ (t + 25) 0 = 1 ∧ 0 ≤ σ (t + 25) 2 ∧ σ (t + 25) 2 ≤ 12) ∧ (σ (t + 27) 0 = 1 ∧ 0 ≤ σ (t + 27) 2 ∧ σ (t + 27) 2 ≤ 24) ∧ (σ (t + 29) 0 = 1 ∧ 0 ≤ σ (t + 29) 2 ∧ σ (t + 29) 2 ≤ 8) ∧ (σ (t + 31) 0 = 2 ∧ 0 ≤ σ (t + 31) 2 ∧ σ (t + 31) 2 ≤ 8) ∧ (σ d 0 = 5 ∧ 0 ≤ σ d 2 ∧ σ d 2 ≤ 150) := by
  obtain ⟨_, a2, a3, a4, a5, a6, a7, a8, a9, a10, a11, a12, a13, a14, a15⟩ := c
  obtain ⟨⟨p1, p2, p3, p4, p5, p6, p7⟩, _⟩ := a2
  obtain ⟨⟨q1, q2, q3, q4⟩, _⟩ := a3
  obtain ⟨⟨r1, r2, r3, r4⟩, _⟩ := a4
  obtain ⟨⟨s1, s2, s3, s4⟩, _⟩ := a5
  obtain ⟨t1, t2, _⟩ := a6
  obtain ⟨⟨u1, u2, u3, u4⟩, _⟩ := a7
  obtain ⟨⟨v1, v2, v3, v4⟩, _⟩ := a8
  obtain ⟨⟨w1, w2, w3, w4⟩, _⟩ := a9
  obtain ⟨⟨x1, x2, x3, x4⟩, _⟩ := a10
  obtain ⟨⟨y1, y2, y3, y4⟩, _⟩ := a11
  obtain ⟨⟨z1, z2, z3, z4, _⟩, ⟨m1, m2, m3, m4, _⟩, ⟨n1, n2, n3, n4, _⟩⟩ := a12
  obtain ⟨⟨k1, k2, k3, k4⟩, _⟩ := a13
  obtain ⟨⟨l1, l2, l3, l4⟩, _⟩ := a14
  obtain ⟨⟨o1, o2, o3, o4⟩, _⟩ := a15
  refine ⟨⟨p1, by omega, by omega⟩, ⟨p2, p6, p7⟩, ⟨q1, by omega, by omega⟩, ⟨r1, by omega, by omega⟩, ⟨s1, by omega, by omega⟩, ⟨t1, t2⟩, ⟨u1, by omega, by omega⟩, ⟨v1, by omega, by omega⟩, ⟨w1, by omega, by omega⟩, ⟨x1, by omega, by omega⟩, ⟨y1, by omega, by omega⟩, ⟨z1, by omega, by omega⟩, ⟨m1, by omega, by omega⟩, ⟨n1, by omega, by omega⟩, ⟨k1, by omega, by omega⟩, ⟨l1, by omega, by omega⟩, ⟨o1, by omega, by omega⟩⟩
/-- the class takes -/
theorem c_take {σ τ : St} (h : Rl σ τ) : ∃ σ', fX11_image 1 σ = some (1, σ') ∧ (∀ k, k ≠ 0 → ¬ (185 ≤ k ∧ k ≤ 233) → σ' k = σ k) ∧ σ' 0 14 = 1 ∧ HC σ σ' 185 3 ∧ TCa σ σ' 199 17 ∧ TCr σ σ' 232 50 := by
  obtain ⟨⟨x1, l1, m1⟩, ⟨x3, l3, m3⟩, ⟨x5, l5, m5⟩, ⟨x7, l7, m7⟩, ⟨x9, l9, m9⟩, ⟨x11, l11⟩, ⟨x13, l13, m13⟩, ⟨x15, l15, m15⟩, ⟨x17, l17, m17⟩, ⟨x19, l19, m19⟩, ⟨x21, l21, m21⟩, ⟨x23, l23, m23⟩, ⟨x25, l25, m25⟩, ⟨x27, l27, m27⟩, ⟨x29, l29, m29⟩, ⟨x31, l31, m31⟩, ⟨xd, ld, md⟩⟩ := h.core.bd
  obtain ⟨_, _, _, y1, y3, y5, y7, y9, y11, y13, y15, y17, y19, y21, y23, y25, y27, y29, y31, yd⟩ := h.c_RI
  obtain ⟨σ1, e1, f1, hc⟩ := copyH (h := 185) (h2 := 3) (σ := σ) (by decide)
  have g : ∀ k, ¬ (185 ≤ k ∧ k ≤ 198) → σ1 k = σ k := fun k hk => f1 k (by omega)
  have gw : ∀ k : Nat, ¬ (185 ≤ k ∧ k ≤ 198) → ∀ w : Int, σ k 0 = w → σ1 k 0 = w := fun k hk w e => by rw [g k hk]; exact e
  have gl : ∀ (k n : Nat) (w b : Int), ¬ (185 ≤ k ∧ k ≤ 198) → 0 ≤ σ k 2 → σ k 2 ≤ b → 0 ≤ w → b * w ≤ n → 0 ≤ σ1 k 2 * w ∧ σ1 k 2 * w ≤ n := fun k n w b hk h0 h1 hw hb => by
    rw [g k hk]
    exact ⟨Int.mul_nonneg h0 hw, Int.le_trans (Int.mul_le_mul_of_nonneg_right h1 hw) hb⟩
  have i : ∀ {k : Nat}, (200 ≤ k ∨ k ≤ 184) → ¬ (185 ≤ k ∧ k ≤ 198) := fun h => by omega
  have l28 : σ 28 2 = 10 := l11
  obtain ⟨σ2, e2, f2, ta⟩ := told_take (σ := σ1) (gw _ (i (by decide)) _ y1) (gw _ (i (by decide)) _ x1) (gl _ _ _ _ (i (by decide)) l1 m1 (by decide) (by decide)) (gw _ (i (by decide)) _ y3) (gw _ (i (by decide)) _ x3) (gl _ _ _ _ (i (by decide)) l3 m3 (by decide) (by decide)) (gw _ (i (by decide)) _ y5) (gw _ (i (by decide)) _ x5) (gl _ _ _ _ (i (by decide)) l5 m5 (by decide) (by decide)) (gw _ (i (by decide)) _ y7) (gw _ (i (by decide)) _ x7) (gl _ _ _ _ (i (by decide)) l7 m7 (by decide) (by decide)) (gw _ (i (by decide)) _ y9) (gw _ (i (by decide)) _ x9) (gl _ _ _ _ (i (by decide)) l9 m9 (by decide) (by decide)) (gw _ (i (by decide)) _ y11) (gw _ (i (by decide)) _ x11) (gl _ _ _ 10 (i (by decide)) (by rw [l28]; decide) (by rw [l28]; decide) (by decide) (by decide)) (gw _ (i (by decide)) _ y13) (gw _ (i (by decide)) _ x13) (gl _ _ _ _ (i (by decide)) l13 m13 (by decide) (by decide)) (gw _ (i (by decide)) _ y15) (gw _ (i (by decide)) _ x15) (gl _ _ _ _ (i (by decide)) l15 m15 (by decide) (by decide)) (gw _ (i (by decide)) _ y17) (gw _ (i (by decide)) _ x17) (gl _ _ _ _ (i (by decide)) l17 m17 (by decide) (by decide)) (gw _ (i (by decide)) _ y19) (gw _ (i (by decide)) _ x19) (gl _ _ _ _ (i (by decide)) l19 m19 (by decide) (by decide)) (gw _ (i (by decide)) _ y21) (gw _ (i (by decide)) _ x21) (gl _ _ _ _ (i (by decide)) l21 m21 (by decide) (by decide)) (gw _ (i (by decide)) _ y23) (gw _ (i (by decide)) _ x23) (gl _ _ _ _ (i (by decide)) l23 m23 (by decide) (by decide)) (gw _ (i (by decide)) _ y25) (gw _ (i (by decide)) _ x25) (gl _ _ _ _ (i (by decide)) l25 m25 (by decide) (by decide)) (gw _ (i (by decide)) _ y27) (gw _ (i (by decide)) _ x27) (gl _ _ _ _ (i (by decide)) l27 m27 (by decide) (by decide)) (gw _ (i (by decide)) _ y29) (gw _ (i (by decide)) _ x29) (gl _ _ _ _ (i (by decide)) l29 m29 (by decide) (by decide)) (gw _ (i (by decide)) _ y31) (gw _ (i (by decide)) _ x31) (gl _ _ _ _ (i (by decide)) l31 m31 (by decide) (by decide))
  have ta' : TCa σ1 σ2 199 17 := ta
  obtain ⟨σ3, e3, f3, td⟩ := row_copy (ro := 232) (r2 := 50) (rn := 750) (σ := σ2) (w := 5) (by decide) (by rw [f2 232 (by decide)]; exact gw 232 (i (by decide)) _ yd) (by rw [f2 50 (by decide)]; exact gw 50 (i (by decide)) _ xd) (by rw [f2 50 (by decide)]; exact gl 50 750 5 150 (i (by decide)) ld md (by decide) (by decide)) (by decide)
  refine ⟨up σ3 0 14 1, ?_, fun k k0 hk => ?_, by rw [up_at, if_pos rfl], ?_, ?_, ?_⟩
  · unfold fX11_image
    rw [if_neg (by decide), e1, bnd_some, e2, bnd_some, show fX6_copyFrom 232 233 750 50 51 750 σ2 = some (0, σ3) from e3, bnd_some, put_eq]
  · rw [up_ne k0, f3 k (by omega) (by omega), f2 k (by omega), f1 k (by omega)]
  · refine hc.on fun k k0 k1 => ?_
    rw [up_ne (by omega), f3 k (by omega) (by omega), f2 k (by omega)]
  · exact (ta'.from fun k k0 k1 => g k (by omega)).of fun k k0 k1 => by rw [up_ne (by omega), f3 k (by omega) (by omega)]
  · exact (td.to (σ := σ) (by rw [f2 50 (by decide), g 50 (by decide)]) (by rw [f2 51 (by decide), g 51 (by decide)])).on (by rw [up_ne (by decide)]) (by rw [up_ne (by decide)])
/-- the class goes back -/
theorem c_back {σ τ : St} (h : Rl σ τ) (h14 : σ 0 14 = 1) : ∃ σ', fX11_image 0 σ = some (1, σ') ∧ (∀ k, ¬ (3 ≤ k ∧ k ≤ 16) → ¬ (18 ≤ k ∧ k ≤ 52) → σ' k = σ k) ∧ σ' 52 2 = 0 ∧ σ' 52 3 = σ 52 3 ∧ HC σ σ' 3 185 ∧ TCa σ σ' 17 199 ∧ TCr σ σ' 50 232 := by
  obtain ⟨⟨x1, l1, m1⟩, ⟨x3, l3, m3⟩, ⟨x5, l5, m5⟩, ⟨x7, l7, m7⟩, ⟨x9, l9, m9⟩, ⟨x11, l11⟩, ⟨x13, l13, m13⟩, ⟨x15, l15, m15⟩, ⟨x17, l17, m17⟩, ⟨x19, l19, m19⟩, ⟨x21, l21, m21⟩, ⟨x23, l23, m23⟩, ⟨x25, l25, m25⟩, ⟨x27, l27, m27⟩, ⟨x29, l29, m29⟩, ⟨x31, l31, m31⟩, ⟨xd, ld, md⟩⟩ := (h.c_RI.2.2.1 h14).bd
  obtain ⟨⟨y1, _⟩, ⟨y3, _⟩, ⟨y5, _⟩, ⟨y7, _⟩, ⟨y9, _⟩, ⟨y11, _⟩, ⟨y13, _⟩, ⟨y15, _⟩, ⟨y17, _⟩, ⟨y19, _⟩, ⟨y21, _⟩, ⟨y23, _⟩, ⟨y25, _⟩, ⟨y27, _⟩, ⟨y29, _⟩, ⟨y31, _⟩, ⟨yd, _⟩⟩ := h.core.bd
  obtain ⟨σ1, e1, f1, hc⟩ := copyH (h := 3) (h2 := 185) (σ := σ) (by decide)
  have g : ∀ k, ¬ (3 ≤ k ∧ k ≤ 16) → σ1 k = σ k := fun k hk => f1 k (by omega)
  have gw : ∀ k : Nat, ¬ (3 ≤ k ∧ k ≤ 16) → ∀ w : Int, σ k 0 = w → σ1 k 0 = w := fun k hk w e => by rw [g k hk]; exact e
  have gl : ∀ (k n : Nat) (w b : Int), ¬ (3 ≤ k ∧ k ≤ 16) → 0 ≤ σ k 2 → σ k 2 ≤ b → 0 ≤ w → b * w ≤ n → 0 ≤ σ1 k 2 * w ∧ σ1 k 2 * w ≤ n := fun k n w b hk h0 h1 hw hb => by
    rw [g k hk]
    exact ⟨Int.mul_nonneg h0 hw, Int.le_trans (Int.mul_le_mul_of_nonneg_right h1 hw) hb⟩
  have i : ∀ {k : Nat}, 17 ≤ k → ¬ (3 ≤ k ∧ k ≤ 16) := fun h => by omega
  have l210 : σ 210 2 = 10 := l11
  obtain ⟨σ2, e2, f2, ta⟩ := told_back (σ := σ1) (gw _ (i (by decide)) _ y1) (gw _ (i (by decide)) _ x1) (gl _ _ _ _ (i (by decide)) l1 m1 (by decide) (by decide)) (gw _ (i (by decide)) _ y3) (gw _ (i (by decide)) _ x3) (gl _ _ _ _ (i (by decide)) l3 m3 (by decide) (by decide)) (gw _ (i (by decide)) _ y5) (gw _ (i (by decide)) _ x5) (gl _ _ _ _ (i (by decide)) l5 m5 (by decide) (by decide)) (gw _ (i (by decide)) _ y7) (gw _ (i (by decide)) _ x7) (gl _ _ _ _ (i (by decide)) l7 m7 (by decide) (by decide)) (gw _ (i (by decide)) _ y9) (gw _ (i (by decide)) _ x9) (gl _ _ _ _ (i (by decide)) l9 m9 (by decide) (by decide)) (gw _ (i (by decide)) _ y11) (gw _ (i (by decide)) _ x11) (gl _ _ _ 10 (i (by decide)) (by rw [l210]; decide) (by rw [l210]; decide) (by decide) (by decide)) (gw _ (i (by decide)) _ y13) (gw _ (i (by decide)) _ x13) (gl _ _ _ _ (i (by decide)) l13 m13 (by decide) (by decide)) (gw _ (i (by decide)) _ y15) (gw _ (i (by decide)) _ x15) (gl _ _ _ _ (i (by decide)) l15 m15 (by decide) (by decide)) (gw _ (i (by decide)) _ y17) (gw _ (i (by decide)) _ x17) (gl _ _ _ _ (i (by decide)) l17 m17 (by decide) (by decide)) (gw _ (i (by decide)) _ y19) (gw _ (i (by decide)) _ x19) (gl _ _ _ _ (i (by decide)) l19 m19 (by decide) (by decide)) (gw _ (i (by decide)) _ y21) (gw _ (i (by decide)) _ x21) (gl _ _ _ _ (i (by decide)) l21 m21 (by decide) (by decide)) (gw _ (i (by decide)) _ y23) (gw _ (i (by decide)) _ x23) (gl _ _ _ _ (i (by decide)) l23 m23 (by decide) (by decide)) (gw _ (i (by decide)) _ y25) (gw _ (i (by decide)) _ x25) (gl _ _ _ _ (i (by decide)) l25 m25 (by decide) (by decide)) (gw _ (i (by decide)) _ y27) (gw _ (i (by decide)) _ x27) (gl _ _ _ _ (i (by decide)) l27 m27 (by decide) (by decide)) (gw _ (i (by decide)) _ y29) (gw _ (i (by decide)) _ x29) (gl _ _ _ _ (i (by decide)) l29 m29 (by decide) (by decide)) (gw _ (i (by decide)) _ y31) (gw _ (i (by decide)) _ x31) (gl _ _ _ _ (i (by decide)) l31 m31 (by decide) (by decide))
  have ta' : TCa σ1 σ2 17 199 := ta
  obtain ⟨σ3, e3, f3, td⟩ := row_copy (ro := 50) (r2 := 232) (rn := 750) (σ := σ2) (w := 5) (by decide) (by rw [f2 50 (by decide)]; exact gw 50 (i (by decide)) _ yd) (by rw [f2 232 (by decide)]; exact gw 232 (i (by decide)) _ xd) (by rw [f2 232 (by decide)]; exact gl 232 750 5 150 (i (by decide)) ld md (by decide) (by decide)) (by decide)
  have x52 : σ3 52 = σ 52 := by rw [f3 52 (by decide) (by decide), f2 52 (by decide), g 52 (by decide)]
  refine ⟨up σ3 52 2 0, ?_, fun k hk hk2 => ?_, by rw [up_at, if_pos rfl], ?_, ?_, ?_, ?_⟩
  · unfold fX11_image fX10_forget
    rw [if_pos rfl, fld_eq, h14, if_neg (by decide), e1, bnd_some, e2, bnd_some, show fX6_copyFrom 50 51 750 232 233 750 σ2 = some (0, σ3) from e3, bnd_some, put_eq, bnd_some]
  · rw [up_ne (by omega), f3 k (by omega) (by omega), f2 k (by omega), f1 k (by omega)]
  · rw [up_at, if_neg (by decide), x52]
  · refine hc.on fun k k0 k1 => ?_
    rw [up_ne (by omega), f3 k (by omega) (by omega), f2 k (by omega)]
  · exact (ta'.from fun k k0 k1 => g k (by omega)).of fun k k0 k1 => by rw [up_ne (by omega), f3 k (by omega) (by omega)]
  · exact (td.to (σ := σ) (by rw [f2 232 (by decide), g 232 (by decide)]) (by rw [f2 233 (by decide), g 233 (by decide)])).on (by rw [up_ne (by decide)]) (by rw [up_ne (by decide)])
