/-! LAMPS: the search -/
def cIn (k f : Int) : Int → St → Rs (Int ⊕ Unit) := fun x33 s34 =>
  if x33 < 3 then (
  if f = x33 then (
  some (.inl (w32 (x33 + 1)), s34))
  else
  bnd (fX4_pour k f x33 s34) fun r36 s37 =>
  some (.inl (w32 (x33 + 1)), s37))
  else
  some (.inr (), s34)
def mIn (g : Int) : Int × Int → St → Rs ((Int × Int) ⊕ Int) := fun x40 s41 =>
  if x40.2 < 9 then (
  dvc 3 <|
  dvc 3 <|
  if idv x40.2 3 = irm x40.2 3 then (
  some (.inl (x40.1, w32 (x40.2 + 1)), s41))
  else
  dvc 3 <|
  dvc 3 <|
  bnd (fX12_poured g (idv x40.2 3) (irm x40.2 3) s41) fun r47 s48 =>
  lod s48 52 2197 r47 fun v50 =>
  if v50 < 100000000 then (
  some (.inl (x40.1, w32 (x40.2 + 1)), s48))
  else
  lod s48 52 2197 g fun v52 =>
  sto s48 52 2197 r47 (w32 (v52 + 1)) fun s54 =>
  sto s54 53 2197 x40.1 r47 fun s55 =>
  lb (w32 (x40.1 + 1)) fun v56 =>
  some (.inl (v56, w32 (x40.2 + 1)), s55))
  else
  some (.inr x40.1, s41)
theorem fuelN (d : Nat) (hd : d < 100) : ∃ N, FUEL = N + d := ⟨FUEL - d, by unfold FUEL; omega⟩
theorem block {σ τ : St} {A B C k : Int} {γ : Type} {j f : Nat} (hA : 1 ≤ A ∧ A ≤ 12) (hB : 1 ≤ B ∧ B ≤ 12) (hC : 1 ≤ C ∧ C ≤ 12) (hk : vld A B C k) (hf : f < 3) {K : Nat} (hj : j < K) {σ' τ' : St} (hb : BRl σ τ A B C K σ' τ') (hkj : σ' 166 j = k) {M : Nat} {k1 : Unit → St → Rs γ} {P : γ → St → Int → St → Prop}
    (hn : ∀ (K' : Nat) s t, K ≤ K' → BRl σ τ A B C K' s t → s 166 j = k → Ok2 (k1 () s) (itr M (mIn (eC A k)) ((K' : Int), ((3 * (f + 1) : Nat) : Int)) t) P) :
    Ok2 (bnd (itr FUEL (cIn k f) 0 σ') k1) (itr (M + 3) (mIn (eC A k)) ((K : Int), ((3 * f : Nat) : Int)) τ') P := by
  have hk2 := hk
  unfold vld at hk2
  obtain ⟨s1, s2, s3, s4, s5, s6⟩ := eC_split (A := A) ⟨hk2.1, hk2.2.1⟩
  obtain ⟨N, hN⟩ := fuelN (3 + 1) (by decide)
  rw [hN, ← Nat.add_assoc]
  clear hN
  refine ok2_part 3 (fun t x s y u => x = (t : Int) ∧ ∃ K' : Nat, y = ((K' : Int), ((3 * f + t : Nat) : Int)) ∧ K ≤ K' ∧ BRl σ τ A B C K' s u ∧ s 166 j = k) ?_ 3 0 _ _ _ _ _ _ rfl ⟨rfl, K, rfl, Nat.le_refl _, hb, hkj⟩ ?_
  · rintro t x s y u ht ⟨rfl, K', rfl, hK, hb, hkj⟩
    unfold cIn mIn
    have e1 : Hd (idv ((3 * f + t : Nat) : Int) 3 = f) := Hd.m (by rw [idv_nn (by omega) (by decide) (by omega)]; omega)
    have e2 : Hd (irm ((3 * f + t : Nat) : Int) 3 = t) := Hd.m (by rw [irm_nn (by omega)]; omega)
    have e3 : Hd (w32 ((t : Int) + 1) = ((t + 1 : Nat) : Int)) := w32_nat (by omega)
    have e4 : Hd (w32 (((3 * f + t : Nat) : Int) + 1) = ((3 * f + (t + 1) : Nat) : Int)) := w32_nat (by omega)
    dsimp only
    rw [e1.o, e2.o, e3.o, e4.o]
    clear e1 e2 e3 e4
    rw [ko_t (show (t : Int) < 3 by omega)]
    by_cases ft : (f : Int) = t
    · rw [ko_t ft, ko_some, ko_jl, ko_t (by omega), ko_dvc, ko_dvc, ko_t ft, ko_some, ko_jl]
      exact ⟨by decide, by decide, rfl, K', rfl, hK, hb, hkj⟩
    · obtain ⟨⟨fx, fm⟩, ⟨a0, a1, a2, b0, b1, b2⟩, -⟩ := id hb
      have nv := nw3_vld (f := f) (t := t) hA hB hC ⟨s3, hk2.2.2.1⟩ ⟨s5, hk2.2.2.2.1⟩ hk2.2.2.2.2 (by omega) (by omega) ft
      obtain ⟨σ3, c, fx3, hc, ep⟩ := c_pour (f := f) (t := t) hA hB hC ⟨s3, hk2.2.2.1⟩ ⟨s5, hk2.2.2.2.1⟩ hk2.2.2.2.2 (by omega) (by omega) ft a0 a1 a2
      obtain ⟨τ3, c', fm3, hc', ep'⟩ := m_poured (f := f) (t := t) hA hB hC ⟨s3, hk2.2.2.1⟩ ⟨s5, hk2.2.2.2.1⟩ hk2.2.2.2.2 (by omega) (by omega) ft b0 b1 b2
      rw [← s1] at ep
      rw [← s2] at ep'
      have vc : vld A B C c := by
        unfold vld
        omega
      have ec : c' = eC A c := by
        unfold eC
        omega
      have x165 : σ3 165 = s 165 := fx3 165 (by decide)
      have x166 : σ3 166 = s 166 := fx3 166 (by decide)
      have st := enq_step hA.2 (hb.work fx3 fm3) vc hk j (by omega) (by rw [x166, hkj])
      rw [x165] at st
      rw [ko_f ft, ko_bnd, ep, ko_bnd]
      refine ok_mono st ?_
      rintro _ s4 st2
      rw [ko_some, ko_some, ko_jl, ko_t (by omega), ko_dvc, ko_dvc, ko_f ft, ko_dvc, ko_dvc, ko_bnd, ep', ko_some, ec]
      refine ⟨by decide, by decide, by decide, by decide, ?_⟩
      rw [ko_lod] at st2 ⊢
      refine ⟨st2.1, ?_⟩
      have st2 := st2.2
      by_cases lt : τ3 52 (eC A c) < 100000000
      · rw [ko_t lt, ko_some] at st2 ⊢
        obtain ⟨K2, q1, q2, q3, q4⟩ := st2
        refine ⟨rfl, K2, by rw [q1], by omega, q3, ?_⟩
        rw [q4 j (by omega), x166, hkj]
      · rw [ko_f lt, ko_lod, ko_sto, ko_sto, ko_lb, ko_some] at st2 ⊢
        obtain ⟨z1, z2, z3, K2, q1, q2, q3, q4⟩ := st2
        refine ⟨z1, z2, z3, rfl, K2, by rw [q1], by omega, q3, ?_⟩
        rw [q4 j (by omega), x166, hkj]
  · rintro x s y u ⟨rfl, K', rfl, hK, hb, hkj⟩
    have : ¬ (((3 : Nat) : Int) < 3) := by decide
    unfold cIn
    rw [ko_f this, ko_some, ko_jr]
    exact hn K' s u hK hb hkj
theorem pours {σ τ : St} {A B C k : Int} {j : Nat} (hA : 1 ≤ A ∧ A ≤ 12) (hB : 1 ≤ B ∧ B ≤ 12) (hC : 1 ≤ C ∧ C ≤ 12) (hk : vld A B C k) {K : Nat} (hj : j < K) {σ' τ' : St} (hb : BRl σ τ A B C K σ' τ') (hkj : σ' 166 j = k) :
    Ok2 (itr FUEL (fun (x30 : Int) s31 =>
      if x30 < 3 then (
      bnd (itr FUEL (cIn k x30) 0 s31) fun (y39 : Unit) s40 =>
      some (.inl (w32 (x30 + 1)), s40))
      else
      (some (.inr (), s31) : Rs (Int ⊕ Unit))) 0 σ') (itr FUEL (mIn (eC A k)) ((K : Int), 0) τ') fun _ s y t => ∃ K' : Nat, y = K' ∧ K ≤ K' ∧ BRl σ τ A B C K' s t := by
  have un : ∀ {N : Nat} {body : Int → St → Rs (Int ⊕ Unit)} {x : Int} {s : St}, itr (N + 1) body x s = bnd (body x s) fun r s' => match r with
      | .inl x' => itr N body x' s'
      | .inr y => some (y, s') := by
    intro N body x s
    rw [itr]
    cases body x s with
    | none => rfl
    | some q =>
      obtain ⟨r, s'⟩ := q
      cases r <;> rfl
  have as : ∀ {α β γ : Type} {h : Rs α} {k : α → St → Rs β} {g : β → St → Rs γ}, bnd (bnd h k) g = bnd h fun x s => bnd (k x s) g := fun {α β γ h k g} => bnd_assoc
  obtain ⟨N, hN⟩ := fuelN 4 (by decide)
  obtain ⟨M, hM⟩ := fuelN 10 (by decide)
  have e1 : ∀ (b : Int → St → Rs (Int ⊕ Unit)) (x : Int) (s : St), itr FUEL b x s = itr (N + 1 + 1 + 1 + 1) b x s := fun b x s => by rw [hN]
  have e2 : ∀ (b : Int × Int → St → Rs ((Int × Int) ⊕ Int)) (x : Int × Int) (s : St), itr FUEL b x s = itr (M + 1 + 3 + 3 + 3) b x s := fun b x s => by rw [hM]
  clear hN hM
  rw [e2, e1, un, if_pos (by decide), as]
  simp only [bnd_some]
  have z0 : ((K : Int), (0 : Int)) = ((K : Int), ((3 * 0 : Nat) : Int)) := rfl
  rw [z0]
  refine block (f := 0) hA hB hC hk (by decide) hj hb hkj ?_
  intro K1 s1 t1 l1 hb1 hk1
  have w1 : w32 (0 + 1) = 1 := by decide
  have w2 : w32 (1 + 1) = 2 := by decide
  have w3 : w32 (2 + 1) = 3 := by decide
  rw [w1, un, if_pos (by decide), as]
  simp only [bnd_some]
  refine block (f := 1) hA hB hC hk (by decide) (by omega) hb1 hk1 ?_
  intro K2 s2 t2 l2 hb2 hk2
  rw [w2, un, if_pos (by decide), as]
  simp only [bnd_some]
  refine block (f := 2) hA hB hC hk (by decide) (by omega) hb2 hk2 ?_
  intro K3 s3 t3 l3 hb3 hk3
  rw [w3, un, if_neg (by decide), bnd_some]
  refine ⟨_, _, rfl, ?_⟩
  refine itr_one ?_
  have : ¬ (((3 * (2 + 1) : Nat) : Int) < 9) := by decide
  unfold mIn
  rw [ko_f this, ko_some, ko_jr]
  exact ⟨K3, rfl, by omega, hb3⟩
theorem bnd_id {α : Type} {h : Rs α} : bnd h (fun x s => some (x, s)) = h := by
  cases h with
  | none => rfl
  | some q => rfl
theorem ok2_while {β γ β2 γ2 : Type} {b1 : β → St → Rs (β ⊕ γ)} {b2 : β2 → St → Rs (β2 ⊕ γ2)} {P : γ → St → γ2 → St → Prop} {x0 : β} {σ0 : St} {y0 : β2} {τ0 : St} (I : β → St → β2 → St → Prop) (μ : β → Nat) (hm : μ x0 < 100000000) (h0 : I x0 σ0 y0 τ0)
    (hs : ∀ x σ y τ, I x σ y τ → Ok2 (b1 x σ) (b2 y τ) fun r σ' q τ' => match r, q with
      | .inl x', .inl y' => I x' σ' y' τ' ∧ μ x' < μ x
      | .inr r, .inr q => P r σ' q τ'
      | _, _ => False) : Ok2 (itr FUEL b1 x0 σ0) (itr FUEL b2 y0 τ0) P := by
  have key : ∀ (N : Nat) (x : β) (σ : St) (y : β2) (τ : St), I x σ y τ → μ x < N → Ok2 (itr N b1 x σ) (itr N b2 y τ) P := by
    intro N
    induction N with
    | zero => intro x σ y τ _ h; exact absurd h (Nat.not_lt_zero _)
    | succ N ih =>
      intro x σ y τ hI hm
      obtain ⟨r, σ', e, q, τ', e2, h⟩ := hs x σ y τ hI
      rw [itr, itr, e, e2]
      cases r with
      | inl x' => cases q with
        | inl y' => exact ih x' σ' y' τ' h.1 (by omega)
        | inr q => exact False.elim h
      | inr r => cases q with
        | inl y' => exact False.elim h
        | inr q => exact ⟨r, σ', rfl, q, τ', rfl, h⟩
  exact key FUEL x0 σ0 y0 τ0 h0 (by unfold FUEL; omega)
theorem s_lamps {σ τ : St} (h : Rl σ τ) {p1 p2 p3 p4 : Int} : Sim (fX11_lamps p1 p2 p3 p4 σ) (fX12_lamps p1 p2 p3 p4 τ) := by
  unfold fX12_lamps
  refine sim_t0 h ?_
  clear h
  intro τ h
  refine Sim.of h ?_
  clear h
  unfold fX11_lamps
  by_cases c1 : 1 ≤ p1 ∧ p1 ≤ 12
  · by_cases c2 : 1 ≤ p2 ∧ p2 ≤ 12
    · by_cases c3 : 1 ≤ p3 ∧ p3 ≤ 12
      · by_cases c4 : 0 ≤ p4 ∧ p4 ≤ 12
        · simp only [isIn_eq, within_eq, bnd_some, if_pos c1, if_pos c2, if_pos c3, if_pos c4, Int.reduceEq, if_false]
          unfold fX4_fewestPourings
          have s3 : ∀ {β : Type} {σ : St} {k : Nat} {i v : Int} {g : St → Rs β}, 0 ≤ i ∧ i ≤ 2 → sto σ k 3 i v g = g (up σ k i v) := fun {β σ k i v g} h => sto_eq (by omega)
          rw [s3 (by decide), s3 (by decide), s3 (by decide), s3 (by decide), s3 (by decide), s3 (by decide), fill_eq (by decide), bnd_some, put_eq]
          have w169 : w32 (169 - 1) = 168 := by decide
          have w1 : w32 (169 * p1) = 169 * p1 := w32_sm (by omega)
          -- the start of the class
          have st : fX4_enqueue 0 0 (up (fil (up (up (up σ 168 0 p1) 168 1 p2) 168 2 p3) 165 169 (-1)) 157 14 0) = some (0, up (up (up (up (fil (up (up (up σ 168 0 p1) 168 1 p2) 168 2 p3) 165 169 (-1)) 157 14 0) 165 0 0) 166 0 0) 157 14 1) := by
            unfold fX4_enqueue
            rw [within_eq, w169, if_pos (by decide), bnd_some, if_neg (by decide), fld_eq, up_at, if_pos rfl, if_pos (by decide), lod_eq (by decide), up_ne (by decide), fil_at (by decide), if_pos rfl, sto_eq (by decide), fld_eq, up_ne (by decide), up_at, if_pos rfl, sto_eq (by decide), fld_eq, up_ne (by decide), up_ne (by decide), up_at, if_pos rfl, put_eq]
            rfl
          rw [st, bnd_some]
          clear st
          have fx0 : Fr [157, 165, 166, 167, 168] σ (up (up (up (up (fil (up (up (up σ 168 0 p1) 168 1 p2) 168 2 p3) 165 169 (-1)) 157 14 0) 165 0 0) 166 0 0) 157 14 1) := (((((((Fr.rf.up (by decide)).up (by decide)).up (by decide)).fil (by decide)).up (by decide)).up (by decide)).up (by decide)).up (by decide)
          have y1 : up (up (up (up (fil (up (up (up σ 168 0 p1) 168 1 p2) 168 2 p3) 165 169 (-1)) 157 14 0) 165 0 0) 166 0 0) 157 14 1 168 0 = p1 := rfl
          have y2 : up (up (up (up (fil (up (up (up σ 168 0 p1) 168 1 p2) 168 2 p3) 165 169 (-1)) 157 14 0) 165 0 0) 166 0 0) 157 14 1 168 1 = p2 := rfl
          have y3 : up (up (up (up (fil (up (up (up σ 168 0 p1) 168 1 p2) 168 2 p3) 165 169 (-1)) 157 14 0) 165 0 0) 166 0 0) 157 14 1 168 2 = p3 := rfl
          have y4 : up (up (up (up (fil (up (up (up σ 168 0 p1) 168 1 p2) 168 2 p3) 165 169 (-1)) 157 14 0) 165 0 0) 166 0 0) 157 14 1 157 14 = 1 := rfl
          have y5 : up (up (up (up (fil (up (up (up σ 168 0 p1) 168 1 p2) 168 2 p3) 165 169 (-1)) 157 14 0) 165 0 0) 166 0 0) 157 14 1 166 0 = 0 := rfl
          have y6 : ∀ h, 0 ≤ h → h < 169 → up (up (up (up (fil (up (up (up σ 168 0 p1) 168 1 p2) 168 2 p3) 165 169 (-1)) 157 14 0) 165 0 0) 166 0 0) 157 14 1 165 h = if h = 0 then 0 else -1 := by
            intro h h0 h1
            rw [up_ne (by decide), up_ne (by decide), up_at]
            by_cases hz : h = 0
            · rw [if_pos hz, if_pos hz]
            · rw [if_neg hz, if_neg hz, up_ne (by decide), fil_at ⟨h0, h1⟩]
          generalize up (up (up (up (fil (up (up (up σ 168 0 p1) 168 1 p2) 168 2 p3) 165 169 (-1)) 157 14 0) 165 0 0) 166 0 0) 157 14 1 = σ1 at fx0 y1 y2 y3 y4 y5 y6
          -- the start of the reference
          refine ok2_r (for_ok 2197 (fun i x τ' => x = (i : Int) ∧ Fm [51, 52] [] τ τ' ∧ (τ' 51 0 = p1 ∧ τ' 51 1 = p2 ∧ τ' 51 2 = p3) ∧ ∀ j : Int, 0 ≤ j → j < i → τ' 52 j = 100000000) (by decide) ⟨rfl, ((Fm.rf.up (by decide) (by decide)).up (by decide) (by decide)).up (by decide) (by decide), ⟨rfl, rfl, rfl⟩, fun j j0 j1 => absurd j1 (by rw [Int.natCast_zero]; omega)⟩ ?_ ?_)
          · rintro i x τ' hi ⟨rfl, fm, hs, hj⟩
            rw [ko_t (by omega), ko_sto, ko_some, ko_jl]
            refine ⟨by omega, w32_nat (by omega), fm.up (by decide) (by decide), hs, fun j j0 j1 => ?_⟩
            rw [up_at]
            by_cases hji : j = i
            · rw [if_pos hji]
            · rw [if_neg hji]; exact hj j j0 (by omega)
          · rintro x τ' ⟨rfl, fm, ⟨b0, b1, b2⟩, hj⟩
            rw [ko_f (by decide), ko_some, ko_jr, w1, sto_eq (by omega), sto_eq (by decide)]
            clear w1
            have ec0 : eC p1 0 = 169 * p1 := by unfold eC; omega
            have b : BRl σ τ p1 p2 p3 1 σ1 (up (up τ' 52 (169 * p1) 0) 53 0 (169 * p1)) := by
              refine ⟨⟨fx0, ((fm.mono (by decide) (by decide)).up (by decide) (by decide)).up (by decide) (by decide)⟩, ⟨y1, y2, y3, b0, b1, b2⟩, ⟨y4, by decide, ?_⟩, fun j hj0 => ?_, fun h hv => ?_⟩
              · have : cP 169 (σ1 165) (-1) = cP 169 (fun i => if i = 0 then 0 else -1) (-1) := cP_cong (fun z hz => y6 z (by omega) (by omega))
                rw [this]
                decide +kernel
              · have j0 : j = 0 := by omega
                subst j0
                show vld p1 p2 p3 (σ1 166 0) ∧ up (up τ' 52 (169 * p1) 0) 53 0 (169 * p1) 53 0 = eC p1 (σ1 166 0) ∧ 0 ≤ σ1 165 (σ1 166 0) ∧ σ1 165 (σ1 166 0) ≤ 0
                rw [y5, up_at, if_pos rfl, ec0, y6 0 (by decide) (by decide), if_pos rfl]
                refine ⟨?_, rfl, by decide, by decide⟩
                unfold vld
                omega
              · rw [up_ne (by decide), up_at, y6 h hv.1 hv.2.1]
                have eb := eC_bd c1.2 hv
                by_cases hz : h = 0
                · rw [if_pos hz, hz, if_pos ec0]
                  exact Or.inr ⟨rfl, by decide, by decide⟩
                · rw [if_neg hz, if_neg (fun e => hz (eC_inj hv (by unfold vld; omega) (e.trans ec0.symm))), hj _ eb.1 eb.2]
                  exact Or.inl ⟨rfl, rfl⟩
            clear fx0 y1 y2 y3 y4 y5 y6 hj b0 b1 b2 fm
            generalize up (up τ' 52 (169 * p1) 0) 53 0 (169 * p1) = τ1 at b
            rw [bnd_id]
            refine ok2_bnx (ok2_while (fun x s y t => ∃ (j K : Nat), x = (j : Int) ∧ y = ((K : Int), (j : Int)) ∧ j ≤ K ∧ BRl σ τ p1 p2 p3 K s t) (fun x => (200 - x).toNat) (by decide) ⟨0, 1, rfl, rfl, by decide, b⟩ ?_)
            rintro x s y t ⟨j, K, rfl, rfl, hj, hb⟩
            have k169 := hb.K169
            obtain ⟨⟨fx, fm⟩, ⟨a0, a1, a2, b0, b1, b2⟩, ⟨q1, q2, q3⟩, hq, hv⟩ := id hb
            have wx := fx.mono (T := wX) (by decide)
            have wm := fm.mono (C2 := wM) (J2 := wJ) (by decide) (by decide)
            dsimp only
            rw [fld_eq, q1, w169]
            by_cases jk : (j : Int) < K
            · obtain ⟨u1, u2, u3, u4⟩ := hq j (by omega)
              have hk2 := u1
              unfold vld at hk2
              generalize hkk : s 166 (j : Int) = k at u1 u2 u3 u4 hk2
              obtain ⟨s1, s2, s3', s4, s5, s6⟩ := eC_split (A := p1) ⟨hk2.1, hk2.2.1⟩
              have eb := eC_bd c1.2 u1
              have hkv := hv k u1
              have ev : s 165 k = t 52 (eC p1 k) := by omega
              have see := c_see (σ' := s) (B := p2) (C := p3) c1 ⟨s3', s4⟩ ⟨s5, s6⟩ a0
              have tak := m_takes (x := p1 - k / 13 - k % 13) (τ' := t) (by omega) ⟨s3', s4⟩ ⟨s5, s6⟩
              rw [← s1] at see
              rw [← s2] at tak
              have l3 : ∀ {β : Type} {σ : St} {k : Nat} {i : Int} {g : Int → Rs β}, 0 ≤ i ∧ i ≤ 2 → lod σ k 3 i g = g (σ k i) := fun {β σ k i g} h => lod_eq (by omega)
              rw [if_pos jk, if_pos (by omega), lod_eq (by omega), hkk, within_eq, if_pos (by omega), bnd_some, if_neg (by decide), see, bnd_some, if_pos jk, lod_eq (k := 53) (by omega), u2, tak, bnd_some]
              have hb2 := hb.work (σ2 := up (up (up s 167 1 (k / 13)) 167 2 (k % 13)) 167 0 (p1 - k / 13 - k % 13)) (τ2 := up (up (up t 50 0 (p1 - k / 13 - k % 13)) 50 1 (k / 13)) 50 2 (k % 13)) (((Fr.rf.up (by decide)).up (by decide)).up (by decide)) (((Fm.rf.up (by decide) (by decide)).up (by decide) (by decide)).up (by decide) (by decide))
              have wx2 : Fr wX σ (up (up (up s 167 1 (k / 13)) 167 2 (k % 13)) 167 0 (p1 - k / 13 - k % 13)) := ((wx.up (by decide)).up (by decide)).up (by decide)
              have wm2 : Fm wM wJ τ (up (up (up t 50 0 (p1 - k / 13 - k % 13)) 50 1 (k / 13)) 50 2 (k % 13)) := ((wm.up (by decide) (by decide)).up (by decide) (by decide)).up (by decide) (by decide)
              have z0 : up (up (up s 167 1 (k / 13)) 167 2 (k % 13)) 167 0 (p1 - k / 13 - k % 13) 167 0 = p1 - k / 13 - k % 13 := rfl
              have z1 : up (up (up s 167 1 (k / 13)) 167 2 (k % 13)) 167 0 (p1 - k / 13 - k % 13) 167 1 = k / 13 := rfl
              have z2 : up (up (up s 167 1 (k / 13)) 167 2 (k % 13)) 167 0 (p1 - k / 13 - k % 13) 167 2 = k % 13 := rfl
              have t0 : up (up (up t 50 0 (p1 - k / 13 - k % 13)) 50 1 (k / 13)) 50 2 (k % 13) 50 0 = p1 - k / 13 - k % 13 := rfl
              have t1 : up (up (up t 50 0 (p1 - k / 13 - k % 13)) 50 1 (k / 13)) 50 2 (k % 13) 50 1 = k / 13 := rfl
              have t2 : up (up (up t 50 0 (p1 - k / 13 - k % 13)) 50 1 (k / 13)) 50 2 (k % 13) 50 2 = k % 13 := rfl
              have v1 : up (up (up s 167 1 (k / 13)) 167 2 (k % 13)) 167 0 (p1 - k / 13 - k % 13) 165 k = s 165 k := rfl
              have v2 : up (up (up t 50 0 (p1 - k / 13 - k % 13)) 50 1 (k / 13)) 50 2 (k % 13) 52 (eC p1 k) = t 52 (eC p1 k) := rfl
              have v3 : up (up (up s 167 1 (k / 13)) 167 2 (k % 13)) 167 0 (p1 - k / 13 - k % 13) 166 j = k := hkk
              generalize up (up (up s 167 1 (k / 13)) 167 2 (k % 13)) 167 0 (p1 - k / 13 - k % 13) = s' at *
              generalize up (up (up t 50 0 (p1 - k / 13 - k % 13)) 50 1 (k / 13)) 50 2 (k % 13) = t' at *
              have found : Ok2 (lod s' 165 169 k fun v48 => some (v48, s')) (lod t' 52 2197 (eC p1 k) fun v64 => some (v64, t')) fun r σ' r' τ' => r' = r ∧ Fr wX σ σ' ∧ Fm wM wJ τ τ' := by
                rw [lod_eq (by omega), lod_eq (by omega), ok2_some, v1, v2]
                exact ⟨ev.symm, wx2, wm2⟩
              rw [l3 (k := 167) (by decide), l3 (k := 50) (by decide), z0, t0]
              by_cases d0 : p1 - k / 13 - k % 13 = p4
              · rw [if_pos d0, if_pos d0, ok2_some]
                exact found
              · rw [if_neg d0, if_neg d0, l3 (k := 167) (by decide), l3 (k := 50) (by decide), z1, t1]
                by_cases d1 : k / 13 = p4
                · rw [if_pos d1, if_pos d1, ok2_some]
                  exact found
                · rw [if_neg d1, if_neg d1, l3 (k := 167) (by decide), l3 (k := 50) (by decide), z2, t2]
                  by_cases d2 : k % 13 = p4
                  · rw [if_pos d2, if_pos d2, ok2_some]
                    exact found
                  · rw [if_neg d2, if_neg d2]
                    refine ok2_bnd (ok2_mono (pours (j := j) c1 c2 c3 u1 (by omega) hb2 v3) ?_)
                    rintro _ s2 y2 t2 ⟨K', rfl, hK, hb3⟩
                    rw [ok2_some, w32_nat (by omega)]
                    exact ⟨⟨j + 1, K', rfl, rfl, by omega, hb3⟩, by omega⟩
            · rw [if_neg jk, if_neg jk, ok2_some]
              exact ⟨rfl, wx, wm⟩
        · simp only [isIn_eq, within_eq, bnd_some, if_pos c1, if_pos c2, if_pos c3, if_neg c4, Int.reduceEq, if_false, if_true]
          rw [ok2_some]
          exact ⟨rfl, Fr.rf, Fm.rf⟩
      · simp only [isIn_eq, within_eq, bnd_some, if_pos c1, if_pos c2, if_neg c3, Int.reduceEq, if_false, if_true]
        rw [ok2_some]
        exact ⟨rfl, Fr.rf, Fm.rf⟩
    · simp only [isIn_eq, within_eq, bnd_some, if_pos c1, if_neg c2, Int.reduceEq, if_false, if_true]
      rw [ok2_some]
      exact ⟨rfl, Fr.rf, Fm.rf⟩
  · simp only [isIn_eq, within_eq, bnd_some, if_neg c1, if_true]
    rw [ok2_some]
    exact ⟨rfl, Fr.rf, Fm.rf⟩
