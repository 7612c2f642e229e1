/-! TEXT: products and sums; the reference -/
theorem KR.k4 {t : Tk} {K W : Int} (h : KR t K W) (m : isMk t.1) : K = 4 ∧ W = t.1 := by
  have m' : t.1 ≤ 62 := by unfold isMk at m; omega
  rcases h with ⟨a, b⟩ | ⟨a, b, c, d⟩ | ⟨a, b, c, d⟩ | ⟨a, b, d⟩ | ⟨a, b | b⟩
  · omega
  · omega
  · have := kW_bd ⟨b, c⟩; omega
  · exact ⟨a, b⟩
  · omega
  · exact absurd m b.2.2
theorem flt_end {t : Tk} {po : Int} (h : t.1 = 256) : flt t po = 1 := by
  unfold flt; rw [if_neg (by omega), if_neg (by omega)]
theorem RT.nil {C : Int → Int} {n : Int} {τ : St} {t : Tk} (h : RT C n τ [t]) : t.1 = 256 := by
  by_cases e : t.1 = 256
  · exact e
  · exact False.elim (h.2.2.2 e).2.2
theorem pP_bad {C : Int → Int} {n : Int} {τ : St} {t : Tk} {M : List Tk} {po k : Int} {a : Cd} (h : RT C n τ (t :: M)) (f : flt t po = k) (k0 : k ≠ 0) : pP (t :: M) po a = .inl (k, t :: M) := by
  cases M with
  | nil => rw [← f, flt_end h.nil]; rfl
  | cons u M => rw [pP, f, if_pos k0]
def nxt (u : Tk) (M : List Tk) (a : Cd) : Re := if u.1 = 42 ∨ u.1 = 47 then pP M u.1 a else .inr (u :: M, a)
theorem pP_go {t u : Tk} {M : List Tk} {po : Int} {a : Cd} (f : flt t po = 0) : pP (t :: u :: M) po a = nxt u M (emi po (a ++ [opnd t])) := by
  rw [pP, if_neg (fun q => q f)]; rfl
theorem m_product {C : Int → Int} {n : Int} {τ : St} {L : List Tk} {acc : Cd} (c : CC C n) (e : ME C n τ) (h : RT C n τ L) (mc : MC τ acc) (len : acc.length + L.length ≤ 401) : Ok (fX12_readProduct τ) fun r τ' => MR C n τ r τ' (pP L (-1) acc) := by
  obtain ⟨t, M, rfl⟩ := h.cons
  rw [List.length_cons] at len
  unfold fX12_readProduct
  rw [ko_bnd]
  refine ok_mono (m_unit c e h mc fun t6 => by obtain ⟨u, M, rfl⟩ := h.tl t6; rw [List.length_cons] at len; omega) ?_
  rintro r s (⟨f, rfl, f1, a1, b1⟩ | ⟨f, rfl, t6, f1, l1, r1, c1⟩)
  · rw [if_pos rfl, pP_bad h f (by decide)]
    exact ok_ret ⟨rfl, f1.mono (by decide) (by decide), LoC.fm f1 (by decide), a1, t, M, rfl, b1⟩
  rw [if_neg (by decide), ko_bnx]
  obtain ⟨u, M, rfl⟩ := h.tl t6
  rw [pP_go f]
  rw [List.length_cons] at len
  generalize hR : nxt u M (emi (-1) (acc ++ [opnd t])) = R
  refine cnt_ok (fun k _ s => ∃ u M a, RT C n s (u :: M) ∧ MC s a ∧ Fm [15, 16] [14, 15, 16, 17, 27] τ s ∧ LoC τ s ∧ a.length + (M.length + 1) ≤ 401 ∧ nxt u M a = R ∧ k = M.length) M.length ⟨u, M, acc ++ [opnd t], r1, c1, f1, l1, by rw [List.length_append, List.length_singleton]; omega, hR, rfl⟩ (by omega) ?_
  rintro k _ s2 ⟨u, M, a, r2, c2, f2, l2, ln, hQ, rfl⟩
  clear r1 c1 f1 l1
  have e2 := e.fm f2 (by decide)
  rw [m_sign r2 (by decide), bnd_some]
  have bad : ∀ (t : Tk) (M2 : List Tk) (s3 : St) (k : Int), RT C n s3 (t :: M2) → M = t :: M2 → Fm [15, 16] [14, 15, 16, 17, 27] τ s3 → LoC τ s3 → (u.1 = 42 ∨ u.1 = 47) → flt t u.1 = k → k ≠ 0 → ∀ s4, Fm [] [31, 32] s3 s4 → s4 0 31 = k → s4 0 32 = t.2.2 → MR C n τ (-1) s4 R := by
    intro t M2 s3 k r3 eM f3 l3 hu hf k0 s4 f4 a4 b4
    have hR : nxt u M a = R := hQ
    unfold nxt at hR
    rw [if_pos hu, eM, pP_bad r3 hf k0] at hR
    rw [← hR]
    exact ⟨rfl, (f3.mono (by decide) (by decide)).tr (f4.mono (by decide) (by decide)), l3.tr (LoC.fm f4 (by decide)), a4, t, M2, rfl, b4⟩
  have hR : nxt u M a = R := hQ
  by_cases m : u.1 = 42 ∨ u.1 = 47
  · have u6 : u.1 ≠ 256 := by omega
    obtain ⟨t, M2, rfl⟩ := r2.tl u6
    rw [List.length_cons] at ln
    have step : ∀ s3, RT C n s3 (t :: M2) → MC s3 a → Fm [15, 16] [14, 15, 16, 17, 27] τ s3 → LoC τ s3 → flt t u.1 = flt t (-1) → ∀ op, op = sgn u.1 → Ok (bnd (fX12_readUnit s3) fun r35 s36 => if r35 = -1 then some (.inr (.inr (-1)), s36) else bnd (some (op, s36)) fun (y38 : Int) s39 => bnd (fX12_emits y38 0 s39) fun r41 s42 => some (.inl (), s42)) (Jx (fun (_ : Unit) s => ∃ k', k' < (t :: M2).length ∧ ∃ u M a, RT C n s (u :: M) ∧ MC s a ∧ Fm [15, 16] [14, 15, 16, 17, 27] τ s ∧ LoC τ s ∧ a.length + (M.length + 1) ≤ 401 ∧ nxt u M a = R ∧ k' = M.length) (Jx (fun (_ : Unit) s => Ok (bnd (fX12_errs 1 s) fun r47 s48 => some (r47, s48)) fun r τ' => MR C n τ r τ' R) fun r τ' => MR C n τ r τ' R)) := by
      intro s3 r3 c3 f3 l3 hf op hop
      rw [ko_bnd]
      refine ok_mono (m_unit c (e.fm f3 (by decide)) r3 c3 fun t6 => by obtain ⟨v, M, rfl⟩ := r3.tl t6; rw [List.length_cons] at ln; omega) ?_
      rintro r s4 (⟨f, rfl, f4, a4, b4⟩ | ⟨f, rfl, t6, f4, l4, r4, c4⟩)
      · rw [if_pos rfl]
        exact ok_ret (show MR C n τ (-1) s4 R from bad t M2 s3 1 r3 rfl f3 l3 m (hf.trans f) (by decide) s4 f4 a4 b4)
      · rw [if_neg (by decide), bnd_some]
        obtain ⟨v, M3, rfl⟩ := r3.tl t6
        rw [List.length_cons] at ln
        obtain ⟨s5, e5, f5, l5, c5⟩ := m_emit (o := op) (a := 0) c4 (by rw [List.length_append, List.length_singleton]; omega)
        rw [e5, bnd_some]
        refine ok_ret ⟨M3.length, by rw [List.length_cons, List.length_cons]; omega, v, M3, _, r4.fm f5 (by decide), c5, ((f3.tr f4).tr (f5.mono (by decide) (by decide))), (l3.tr l4).tr l5, by rw [List.length_append, List.length_singleton, List.length_append, List.length_singleton]; omega, ?_, rfl⟩
        have hR' := hR
        unfold nxt at hR'
        rw [if_pos m, pP_go (hf.trans f)] at hR'
        rw [← hR', hop]
        unfold emi
        rw [if_neg (by omega)]
    by_cases m1 : u.1 = 42
    · rw [if_pos m1, if_neg (by decide), bnx_inl, m_sign r2 (by decide), bnd_some, if_pos m1, ko_bnd]
      refine ok_mono (m_reads e2.1 c e2.2 r2 u6) ?_
      rintro _ s3 ⟨f3, r3⟩
      rw [if_neg (by decide), bnx_inl, if_neg (by decide), bnx_inl]
      exact step s3 r3 (c2.fm f3 (by decide)) (f2.tr (f3.mono (by decide) (by decide))) (l2.tr (LoC.fm f3 (by decide))) (flt_m1 (by omega)) 4 (by rw [m1]; rfl)
    · have m2 : u.1 = 47 := by omega
      rw [if_neg m1, if_pos rfl, m_sign r2 (by decide), bnd_some, if_pos m2, if_neg (by decide), bnx_inl, m_sign r2 (by decide), bnd_some, if_neg m1, ko_bnd]
      refine ok_mono (m_reads e2.1 c e2.2 r2 u6) ?_
      rintro _ s3 ⟨f3, r3⟩
      have F3 := f2.tr (f3.mono (by decide) (by decide))
      have L3 := l2.tr (LoC.fm f3 (by decide))
      rw [if_pos rfl, fld_eq]
      have kr := r3.1
      by_cases k3 : s3 0 16 = 3
      · have t7 := kr.k3.1.mp k3
        have w := (kr.k3.2 t7).1
        rw [if_pos k3, bnx_inl, if_pos rfl, fld_eq]
        by_cases z : s3 0 17 = 0
        · rw [if_pos z]
          obtain ⟨s4, e4, f4, a4, b4⟩ := m_errs (k := 2) r3
          rw [e4, bnd_some, bnx_inr]
          exact ok_ret (show MR C n τ (-1) s4 R from bad t M2 s3 2 r3 rfl F3 L3 m (by unfold flt; rw [if_pos t7, if_pos ⟨m2, w.symm.trans z⟩]) (by decide) s4 f4 a4 b4)
        · rw [if_neg z, bnx_inl]
          exact step s3 r3 (c2.fm f3 (by decide)) F3 L3 (by unfold flt; rw [if_pos t7, if_pos t7, if_neg (fun q => z (w.trans q.2)), if_neg (by omega)]) 5 (by rw [m2]; rfl)
      · rw [if_neg k3, bnx_inr]
        refine ok_ret (show Ok _ _ from ?_)
        obtain ⟨s4, e4, f4, a4, b4⟩ := m_errs (k := 1) r3
        rw [e4, bnd_some]
        have t7 : t.1 ≠ 257 := fun q => k3 (kr.k3.1.mpr q)
        exact ok_ret (bad t M2 s3 1 r3 rfl F3 L3 m (by unfold flt; rw [if_neg t7, if_neg (fun q => q.1 m2)]) (by decide) s4 f4 a4 b4)
  · rw [if_neg (show ¬ u.1 = 42 by omega), if_pos rfl, m_sign r2 (by decide), bnd_some, if_neg (show ¬ u.1 = 47 by omega), if_pos rfl, bnx_inr]
    refine ok_ret (show MR C n τ 0 s2 R from ?_)
    unfold nxt at hR
    rw [if_neg m] at hR
    rw [← hR]
    exact ⟨rfl, f2, l2, r2, c2⟩
def nxs (u : Tk) (M : List Tk) (a : Cd) : Re := if u.1 = 43 ∨ u.1 = 45 then pS M u.1 (-1) a else .inr (u :: M, a)
theorem pP_in : ∀ (k : Nat) (L : List Tk), L.length ≤ k → ∀ po a L' a', pP L po a = .inr (L', a') → (∃ u M, L' = u :: M) ∧ a'.length + L'.length + 1 ≤ a.length + pnd po + L.length + 1 ∧ L'.length < L.length := by
  intro k
  induction k with
  | zero =>
    intro L hL po a L' a' h
    cases L with
    | nil => cases h
    | cons t L => simp at hL
  | succ k ih =>
    intro L hL po a L' a' h
    match L, hL with
    | [], _ => cases h
    | [t], _ => cases h
    | t :: u :: M, hL =>
      simp only [List.length_cons] at hL
      rw [pP] at h
      have ln : (emi po (a ++ [opnd t])).length = a.length + 1 + pnd po := by rw [emi_len, List.length_append, List.length_singleton]
      by_cases f : flt t po ≠ 0
      · rw [if_pos f] at h; cases h
      · rw [if_neg f] at h
        by_cases m : u.1 = 42 ∨ u.1 = 47
        · rw [if_pos m] at h
          obtain ⟨x, y, z⟩ := ih M (by omega) _ _ _ _ h
          have : pnd u.1 ≤ 1 := by unfold pnd; split <;> omega
          refine ⟨x, ?_, ?_⟩ <;> rw [List.length_cons, List.length_cons] <;> omega
        · rw [if_neg m] at h
          cases h
          refine ⟨⟨u, M, rfl⟩, ?_, ?_⟩ <;> simp only [List.length_cons] <;> omega
theorem aft_inl {so : Int} {x : Int × List Tk} : aft so (.inl x) = .inl x := rfl
theorem aft_inr {so : Int} {u : Tk} {M : List Tk} {a : Cd} : aft so (.inr (u :: M, a)) = nxs u M (emi so a) := rfl
theorem m_sums {C : Int → Int} {n : Int} {τ : St} {L : List Tk} {acc : Cd} (c : CC C n) (e : ME C n τ) (h : RT C n τ L) (mc : MC τ acc) (len : acc.length + L.length ≤ 401) : Ok (fX12_readSum τ) fun r τ' => MR C n τ r τ' (pS L (-1) (-1) acc) := by
  unfold fX12_readSum
  rw [ko_bnd, pS_pP _ L (Nat.le_refl _)]
  refine ok_mono (m_product c e h mc len) ?_
  intro r s hr
  have pin := pP_in _ L (Nat.le_refl _) (-1) acc
  generalize pP L (-1) acc = R1 at *
  match R1, hr, pin with
  | .inl (k, L1), ⟨hr, f1, l1, a1, b1⟩, _ =>
    rw [if_pos hr]
    exact ok_ret ⟨rfl, f1, l1, a1, b1⟩
  | .inr (L1, a1), ⟨hr, f1, l1, r1, c1⟩, pin =>
    rw [if_neg (by omega), ko_bnx]
    obtain ⟨⟨u, M, rfl⟩, lb, lt⟩ := pin _ _ rfl
    rw [aft_inr]
    have nm : pnd (-1) = 0 := rfl
    rw [List.length_cons] at lb
    generalize hR : nxs u M (emi (-1) a1) = R
    refine cnt_ok (fun k _ s => ∃ u M a, RT C n s (u :: M) ∧ MC s a ∧ Fm [15, 16] [14, 15, 16, 17, 27] τ s ∧ LoC τ s ∧ a.length + (M.length + 1) ≤ 401 ∧ nxs u M a = R ∧ k = M.length) M.length ⟨u, M, a1, r1, c1, f1, l1, by omega, hR, rfl⟩ (by omega) ?_
    rintro k _ s2 ⟨u, M, a, r2, c2, f2, l2, ln, hR, rfl⟩
    have e2 := e.fm f2 (by decide)
    rw [m_sign r2 (by decide), bnd_some]
    by_cases m : u.1 = 43 ∨ u.1 = 45
    · have u6 : u.1 ≠ 256 := by omega
      have kr := r2.1
      have mk : isMk u.1 := by unfold isMk; omega
      have w := (kr.k4 mk).2
      unfold nxs at hR
      rw [if_pos m, pS_pP _ M (Nat.le_refl _)] at hR
      have go : Ok (fld s2 0 17 fun v16 => bnd (if v16 = 43 then some (2, s2) else some (3, s2)) fun (y18 : Int) s19 => bnd (fX12_reads s19) fun r21 s22 => bnd (fX12_readProduct s22) fun r24 s25 => if r24 = -1 then some (.inr (.inl ()), s25) else bnd (fX12_emits y18 0 s25) fun r27 s28 => some (.inl (), s28)) (Jx (fun (_ : Unit) s => ∃ k', k' < M.length ∧ ∃ u M a, RT C n s (u :: M) ∧ MC s a ∧ Fm [15, 16] [14, 15, 16, 17, 27] τ s ∧ LoC τ s ∧ a.length + (M.length + 1) ≤ 401 ∧ nxs u M a = R ∧ k' = M.length) (Jx (fun (_ : Unit) s => Ok (some (-1, s)) fun r τ' => MR C n τ r τ' R) fun r τ' => MR C n τ r τ' R)) := by
        rw [fld_eq, w, show (if u.1 = 43 then some ((2 : Int), s2) else some (3, s2)) = some (sgn u.1, s2) by (rcases m with q | q <;> rw [q] <;> rfl), bnd_some, ko_bnd]
        refine ok_mono (m_reads e2.1 c e2.2 r2 u6) ?_
        rintro _ s3 ⟨f3, r3⟩
        have F3 := f2.tr (f3.mono (by decide) (by decide))
        have L3 := l2.tr (LoC.fm f3 (by decide))
        rw [ko_bnd]
        refine ok_mono (m_product c (e.fm F3 (by decide)) r3 (c2.fm f3 (by decide)) (by omega)) ?_
        intro r s4 hr
        have pin := pP_in _ M (Nat.le_refl _) (-1) a
        generalize pP M (-1) a = R2 at *
        match R2, hr, pin, hR with
        | .inl (k, L1), ⟨hr, f4, l4, a4, b4⟩, _, hR =>
          rw [if_pos hr]
          refine ok_ret (show Ok _ _ from ok_ret ?_)
          rw [aft_inl] at hR
          rw [← hR]
          exact ⟨rfl, (F3.mono (by decide) (by decide)).tr f4, L3.tr l4, a4, b4⟩
        | .inr (L1, a1), ⟨hr, f4, l4, r4, c4⟩, pin, hR =>
          rw [if_neg (by omega)]
          obtain ⟨⟨v, M3, rfl⟩, lb, lt⟩ := pin _ _ rfl
          rw [List.length_cons] at lb lt
          rw [aft_inr] at hR
          obtain ⟨s5, e5, f5, l5, c5⟩ := m_emit (o := sgn u.1) (a := 0) c4 (by omega)
          rw [e5, bnd_some]
          unfold emi at hR
          rw [if_neg (by omega)] at hR
          exact ok_ret ⟨M3.length, by omega, v, M3, _, r4.fm f5 (by decide), c5, (F3.tr f4).tr (f5.mono (by decide) (by decide)), (L3.tr l4).tr l5, by rw [List.length_append, List.length_singleton]; omega, hR, rfl⟩
      by_cases m1 : u.1 = 43
      · rw [if_pos m1, if_neg (by decide), bnx_inl]
        exact go
      · rw [if_neg m1, if_pos rfl, m_sign r2 (by decide), bnd_some, if_pos (show u.1 = 45 by omega), if_neg (by decide), bnx_inl]
        exact go
    · rw [if_neg (show ¬ u.1 = 43 by omega), if_pos rfl, m_sign r2 (by decide), bnd_some, if_neg (show ¬ u.1 = 45 by omega), if_pos rfl, bnx_inr]
      refine ok_ret (show MR C n τ 0 s2 R from ?_)
      unfold nxs at hR
      rw [if_neg m] at hR
      rw [← hR]
      exact ⟨rfl, f2, l2, r2, c2⟩
