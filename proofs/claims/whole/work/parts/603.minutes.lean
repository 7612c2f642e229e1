/-! MINUTES -/
theorem s_minutes {σ τ : St} (h : Rl σ τ) {p1 : Int} : Sim (fX11_minutes p1 σ) (fX12_minutes p1 τ) := by
  unfold fX12_minutes
  refine sim_t0 h ?_
  clear h
  intro τ h
  obtain ⟨⟨a1, a2, a3, a4, a5, a6⟩, ⟨b1, b2, b3, b4, b5, b6⟩, -, -⟩ := h.c_RH
  show Ok2 _ _ fun r σ' r' τ' => r' = r ∧ Rl σ' τ'
  unfold fX11_minutes
  rw [within_eq, isIn_eq, bnd_some, bnd_some]
  by_cases c : 1 ≤ p1 ∧ p1 ≤ 60
  · rw [if_pos c, if_neg (show ¬ ((1 : Int) = 0) by decide), if_neg (show ¬ ((1 : Int) = 0) by decide), fld_eq, fld_eq, a2, a3, lod_eq (by decide), lod_eq (by decide), dvc_eq (by decide), dvc_eq (by decide)]
    by_cases d : 9990 < w32 (τ 1 0 + idv (w32 (τ 1 1 + p1)) 60)
    · rw [if_pos d, if_pos d, ok2_some]
      exact ⟨rfl, h⟩
    · rw [if_neg d, if_neg d]
      clear a1 a2 a3 a4 a5 a6 b1 b2 b3 b4 b5 b6 d
      obtain ⟨n, rfl⟩ : ∃ n : Nat, p1 = n := ⟨p1.toNat, by omega⟩
      refine ok2_bnd (ok2_for n (fun i x σ' y τ' => (∃ a : Int, x = (a, (i : Int)) ∧ y = (a, (i : Int))) ∧ Rl σ' τ') (by omega) ⟨⟨0, rfl, rfl⟩, h⟩ ?_ ?_)
      · rintro i x σ' y τ' hi ⟨⟨a, rfl, rfl⟩, g⟩
        have wi : w32 ((i : Int) + 1) = ((i + 1 : Nat) : Int) := w32_nat (by omega)
        dsimp only
        rw [if_pos (by omega), if_pos (by omega), row_size, bnd_some]
        refine ok2_bnd (ok2_mono (keep2 g) ?_)
        rintro _ σ2 _ τ2 ⟨g2, _, _⟩
        have e0 : up σ2 152 4 0 = σ2 := up_self g2.c_RS.1.2.2.1
        have ps := pass2 (t := 0) (σ := σ2) (τ := τ2) (by rw [e0]; exact g2.mq)
        rw [e0] at ps
        refine ok2_bnd (ok2_mono ps ?_)
        rintro r σ3 _ τ3 ⟨rfl, s, rfl, g3⟩
        have e1 : up s 152 4 0 = s := up_self (g2.mv g3).c_RS.1.2.2.1
        rw [e1, lb_eq, lb_eq, ok2_some, wi]
        exact ⟨⟨_, rfl, rfl⟩, g2.mv g3⟩
      · rintro x σ' y τ' ⟨⟨a, rfl, rfl⟩, g⟩
        dsimp only
        rw [if_neg (by omega), if_neg (by omega), ok2_some]
        show Ok2 _ _ _
        rw [ok2_some]
        exact ⟨rfl, g⟩
  · rw [if_neg c, if_pos rfl, if_pos rfl, ok2_some]
    exact ⟨rfl, h⟩
/-! in thought -/
theorem m_thinks {τ : St} : Ok (fX12_thinks τ) fun _ t => Fm [3] [5] τ t ∧ t 0 5 = 1 ∧ ∀ i, 0 ≤ i → i < 161 → t 3 i = τ 1 i := by
  unfold fX12_thinks
  rw [ko_bnd]
  refine for_ok 161 (fun n x t => x = (n : Int) ∧ Fm [3] [5] τ t ∧ ∀ i, 0 ≤ i → i < (n : Int) → t 3 i = τ 1 i) (by decide) ⟨rfl, Fm.rf, fun i i0 i1 => absurd i1 (by rw [Int.natCast_zero]; omega)⟩ ?_ ?_
  · rintro n x t hn ⟨rfl, fm, hl⟩
    rw [ko_t (by omega), ko_lod, ko_sto, ko_some, ko_jl, fm.1 1 (by decide) (by decide)]
    refine ⟨by omega, by omega, w32_nat (by omega), (by repeat (first | exact Fm.rf | exact fm | exact fm.mono (by decide) (by decide) | refine Fm.u0 ?_ (by decide) | refine Fm.up ?_ (by decide) (by decide))), fun i i0 i1 => ?_⟩
    simp only [up_g, true_and, and_true, false_and, and_false, Nat.reduceEqDiff, if_false, if_true]
    by_cases e : i = n
    · rw [if_pos e, e]
    · rw [if_neg e]
      exact hl i i0 (by omega)
  · rintro x t ⟨rfl, fm, hl⟩
    rw [ko_f (by decide), ko_some, ko_jr, ko_put, ko_some]
    exact ⟨(by repeat (first | exact Fm.rf | exact fm | exact fm.mono (by decide) (by decide) | refine Fm.u0 ?_ (by decide) | refine Fm.up ?_ (by decide) (by decide))), (by (simp only [up_g, Nat.reduceAdd, true_and, and_true, false_and, and_false, Nat.reduceEqDiff, if_false, if_true]) <;> (repeat (first | rw [if_neg (by omega)] | rw [if_pos (by omega)])) <;> (first | assumption | omega)), fun i i0 i1 => hl i i0 i1⟩
theorem m_ends {τ : St} : Ok (fX12_endsThought τ) fun _ t => Fm [1] [5] τ t ∧ t 0 5 = 0 ∧ ∀ i, 0 ≤ i → i < 161 → t 1 i = τ 3 i := by
  unfold fX12_endsThought
  rw [ko_bnd]
  refine for_ok 161 (fun n x t => x = (n : Int) ∧ Fm [1] [5] τ t ∧ ∀ i, 0 ≤ i → i < (n : Int) → t 1 i = τ 3 i) (by decide) ⟨rfl, Fm.rf, fun i i0 i1 => absurd i1 (by rw [Int.natCast_zero]; omega)⟩ ?_ ?_
  · rintro n x t hn ⟨rfl, fm, hl⟩
    rw [ko_t (by omega), ko_lod, ko_sto, ko_some, ko_jl, fm.1 3 (by decide) (by decide)]
    refine ⟨by omega, by omega, w32_nat (by omega), (by repeat (first | exact Fm.rf | exact fm | exact fm.mono (by decide) (by decide) | refine Fm.u0 ?_ (by decide) | refine Fm.up ?_ (by decide) (by decide))), fun i i0 i1 => ?_⟩
    simp only [up_g, true_and, and_true, false_and, and_false, Nat.reduceEqDiff, if_false, if_true]
    by_cases e : i = n
    · rw [if_pos e, e]
    · rw [if_neg e]
      exact hl i i0 (by omega)
  · rintro x t ⟨rfl, fm, hl⟩
    rw [ko_f (by decide), ko_some, ko_jr, ko_put, ko_some]
    exact ⟨(by repeat (first | exact Fm.rf | exact fm | exact fm.mono (by decide) (by decide) | refine Fm.u0 ?_ (by decide) | refine Fm.up ?_ (by decide) (by decide))), (by (simp only [up_g, Nat.reduceAdd, true_and, and_true, false_and, and_false, Nat.reduceEqDiff, if_false, if_true]) <;> (repeat (first | rw [if_neg (by omega)] | rw [if_pos (by omega)])) <;> (first | assumption | omega)), fun i i0 i1 => hl i i0 i1⟩
/-- what stands while one thinks -/
def thC : List Nat := wA ++ (152 :: (List.range 14).map (fun k => 171 + k))
def TwX (σ σ' : St) : Prop := σ' 152 4 = 0 ∧ Fr thC σ σ' ∧ σ' 50 = σ 50 ∧ σ' 51 = σ 51 ∧ HC σ σ' 171 3
def TwM (τ τ' : St) : Prop := Fm [1, 3, 7, 21, 22] [5] τ τ' ∧ τ' 7 = τ 7 ∧ ∀ i, 0 ≤ i → i < 161 → τ' 3 i = τ 1 i
def Th (σ τ σ' τ' : St) : Prop := MQm 1 (up σ' 152 4 1) τ' ∧ TwX σ σ' ∧ TwM τ τ'
theorem think0 {σ τ : St} (h : Rl σ τ) {α β : Type} {k1 : Int → St → Rs α} {k2 : Int → St → Rs β} {P : α → St → β → St → Prop} (hk : ∀ r r' σ' τ', Th σ τ σ' τ' → Ok2 (k1 r σ') (k2 r' τ') P) : Ok2 (bnd (fX2_copyFrom 171 3 σ) k1) (bnd (fX12_thinks τ) k2) P := by
  obtain ⟨σ1, e1, f1, hc⟩ := copyH (h := 171) (h2 := 3) (σ := σ) (by decide)
  rw [e1, bnd_some]
  refine ok2_r (ok_mono m_thinks ?_)
  rintro r t ⟨ft, t5, t3⟩
  have q := h.mq
  have gk : Fr ((List.range 14).map (fun k => 171 + k)) σ σ1 := fun k hkc => f1 k fun hb => hkc (by
    simp only [List.mem_map, List.mem_range]
    exact ⟨k - 171, by omega, by omega⟩)
  have z : σ1 152 4 = 0 := by rw [f1 152 (by decide)]; exact h.c_RS.1.2.2.1
  have fx1 : Fr ((List.range 14).map (fun k => 171 + k) ++ [152]) σ (up σ1 152 4 1) := Fr.up (gk.mono (by decide)) (by decide)
  exact hk _ _ _ _ ⟨⟨q.1.cg fx1 ft (by decide), q.2.1.cg fx1 ft (by decide), q.2.2.1.cg fx1 ft (by decide), q.2.2.2.1.cg fx1 ft (by decide), q.2.2.2.2.1.cg fx1 ft (by decide), q.2.2.2.2.2.1.cg fx1 ft (by decide), rfl, t5, Or.inr rfl⟩, ⟨z, gk.mono (by decide), f1 50 (by decide), f1 51 (by decide), hc⟩, ft.mono (by decide) (by decide), ft.1 7 (by decide) (by decide), t3⟩
theorem think1 {σ τ σ1 τ1 : St} (h : Th σ τ σ1 τ1) : Ok2 (fX1_pass 1 σ1) (fX12_goesBy τ1) fun r σ' r' τ' => r' = r ∧ Th σ τ σ' τ' := by
  obtain ⟨hq, ⟨z, fx, x50, x51, hc⟩, fm, m7, t3⟩ := h
  refine ok2_mono (pass2 hq) ?_
  rintro r σ2 _ τ2 ⟨rfl, s, rfl, g⟩
  obtain ⟨q2, gx, gm, gl, gb⟩ := g
  obtain ⟨y50, y51, n7⟩ := gb rfl
  refine ⟨rfl, ?_, ⟨(by (simp only [up_g, Nat.reduceAdd, true_and, and_true, false_and, and_false, Nat.reduceEqDiff, if_false, if_true]) <;> (repeat (first | rw [if_neg (by omega)] | rw [if_pos (by omega)])) <;> (first | assumption | omega)), ?_, y50.trans x50, y51.trans x51, ?_⟩, (fm.tr (gm.mono (by decide) (by decide))), n7.trans m7, fun i i0 i1 => by rw [gm.1 3 (by decide) (by decide)]; exact t3 i i0 i1⟩
  · have e : up (up s 152 4 0) 152 4 1 = s := by
      funext k i
      simp only [up_g]
      by_cases c : k = 152 ∧ i = 4
      · rw [if_pos c, c.1, c.2]
        exact q2.2.2.2.2.2.2.1.symm
      · rw [if_neg c, if_neg c]
    rw [e]
    exact q2
  · have a1 : Fr thC σ1 (up σ1 152 4 1) := Fr.rf.up (by decide)
    exact ((fx.tr a1).tr (gx.mono (by decide))).up (by decide)
  · have w : ∀ k, 171 ≤ k → k ≤ 184 → (up s 152 4 0) k = σ1 k := by
      intro k k0 k1
      rw [up_ne (by omega), gx k (by unfold wA; simp only [List.mem_cons, List.not_mem_nil, or_false]; omega), up_ne (by omega)]
    obtain ⟨c0, c1, c2⟩ := hc
    refine ⟨fun i i0 i1 => ?_, fun c i c3 c4 i0 i1 => ?_, fun c i c3 c4 i0 i1 => ?_⟩
    · rw [w 171 (by decide) (by decide)]; exact c0 i i0 i1
    · rw [w (171 + c) (by omega) (by omega)]; exact c1 c i c3 c4 i0 i1
    · rw [w (171 + c) (by omega) (by omega)]; exact c2 c i c3 c4 i0 i1
theorem think2 {σ τ σ1 τ1 : St} (h : Rl σ τ) (hX : TwX σ σ1) (hM : TwM τ τ1) {α β : Type} {k1 : Int → St → Rs α} {k2 : Int → St → Rs β} {P : α → St → β → St → Prop} (hk : ∀ r r' σ' τ', Rl σ' τ' → Ok2 (k1 r σ') (k2 r' τ') P) : Ok2 (bnd (fX2_copyFrom 3 171 σ1) k1) (bnd (fX12_endsThought τ1) k2) P := by
  obtain ⟨z1, fx, x50, x51, hc⟩ := hX
  obtain ⟨fm, m7, t3⟩ := hM
  obtain ⟨σ2, e1, f1, hc2⟩ := copyH (h := 3) (h2 := 171) (σ := σ1) (by decide)
  rw [e1, bnd_some]
  refine ok2_r (ok_mono m_ends ?_)
  rintro r t ⟨ft, t5, t1⟩
  have c : HC σ σ2 3 3 := by
    obtain ⟨c0, c1, c2⟩ := hc
    obtain ⟨d0, d1, d2⟩ := hc2
    exact ⟨fun i i0 i1 => (d0 i i0 i1).trans (c0 i i0 i1), fun c i c3 c4 i0 i1 => (d1 c i c3 c4 i0 i1).trans (c1 c i c3 c4 i0 i1), fun c i c3 c4 i0 i1 => (d2 c i c3 c4 i0 i1).trans (c2 c i c3 c4 i0 i1)⟩
  have gm : Fm [1, 3, 7, 21, 22] [5] τ t := fm.tr (ft.mono (by decide) (by decide))
  have n1 : ∀ i, 0 ≤ i → i < 161 → t 1 i = τ 1 i := fun i i0 i1 => (t1 i i0 i1).trans (t3 i i0 i1)
  have hR : RH σ2 3 t := (h.c_RH.copy c).gen (fun _ _ _ => rfl) n1 (gm.1 4 (by decide) (by decide)) (gm.1 5 (by decide) (by decide)) (gm.1 6 (by decide) (by decide)) (gm.2 6 (by decide)) (gm.2 7 (by decide))
  have hB : RB σ2 50 t := h.c_RB.cg1 ((f1 50 (by decide)).trans x50) ((f1 51 (by decide)).trans x51) (n1 3 (by decide) (by decide)) ((ft.1 7 (by decide) (by decide)).trans m7)
  have gx : Fr (wA ++ [4, 9, 10, 152, 171, 172, 173, 174, 175, 176, 177, 178, 179, 180, 181, 182, 183, 184]) σ σ2 := (fx.mono (by decide)).tr fun k hkc => f1 k fun hb => hkc (by unfold wA; simp only [List.mem_append, List.mem_cons, List.not_mem_nil, or_false]; omega)
  have z : σ2 152 4 = 0 := by
    rw [f1 152 (by decide)]
    exact z1
  -- the rest, as if nothing had been done
  have u1 : RU σ (fun k => if k = 1 then t 1 else τ k) := h.c_RU.le (fun k hk => if_neg hk) (by show τ 1 3 ≤ t 1 3; rw [n1 3 (by decide) (by decide)]; exact Int.le_refl _)
  have u2 : RU σ2 t := u1.cg (D := [3, 7, 21, 22]) (J := [5]) gx ⟨fun k k0 kc => by
    show t k = if k = 1 then t 1 else τ k
    by_cases e : k = 1
    · rw [if_pos e, e]
    · rw [if_neg e]
      exact gm.1 k k0 fun hm => by
        simp only [List.mem_cons, List.not_mem_nil, or_false] at hm kc
        omega, fun i hi => by
    show t 0 i = τ 0 i
    exact gm.2 i hi⟩ (by decide)
  have s1 : RS σ2 t := by
    obtain ⟨⟨s1, s2, s3, s4⟩, s5⟩ := h.c_RS
    exact ⟨⟨by rw [gx 140 (by decide)]; exact s1, by rw [gx 142 (by decide)]; exact s2, z, t5⟩, by rw [gm.1 9 (by decide) (by decide)]; exact s5⟩
  exact hk _ _ _ _ ⟨hR, h.c_RLaw.cg gx gm (by decide), h.c_RCalls.cg gx gm (by decide), h.c_REven.cg gx gm (by decide), h.c_RStreet.cg gx gm (by decide), h.c_RWish.cg gx gm (by decide), h.c_RChair.cg gx gm (by decide), h.c_RCat.cg gx gm (by decide), h.c_RFam.cg gx gm (by decide), h.c_RBoard.cg gx gm (by decide), h.c_RTalk.cg gx gm (by decide), h.c_RHalf.cg gx gm (by decide), h.c_RSwing.cg gx gm (by decide), h.c_RQuar.cg gx gm (by decide), hB, u2, h.c_RI.cg gx gm (by decide), h.c_RP.cg gx gm (by decide), h.c_RF.cg gx gm (by decide), s1⟩
