/-! TEXT: lines of tokens that must come; the reference -/
abbrev DL : List Nat := [18, 19, 20]
abbrev J4 : List Int := [14, 15, 16, 17]
abbrev J6 : List Int := [14, 15, 16, 17, 31, 32]
/-- what was told stays -/
def LoT (τ s : St) : Prop := (∀ i, i < 64 → s 18 i = τ 18 i ∧ s 19 i = τ 19 i) ∧ ∀ i, i < 144 → s 20 i = τ 20 i
theorem LoT.rf {τ : St} : LoT τ τ := ⟨fun _ _ => ⟨rfl, rfl⟩, fun _ _ => rfl⟩
theorem LoT.fm {τ s s' : St} (h : LoT τ s) {J : List Int} (f : Fm [] J s s') : LoT τ s' := by
  unfold LoT
  rw [f.1 18 (by decide) (by decide), f.1 19 (by decide) (by decide), f.1 20 (by decide) (by decide)]
  exact h
def WX (τ X : St) : Prop := Fm DL [] τ X ∧ LoT τ X
theorem WX.st {τ X : St} {k : Nat} {i v : Int} (h : WX τ X) (hk : k = 18 ∨ k = 19) (hi : 64 ≤ i) : WX τ (up X k i v) := by
  refine ⟨h.1.up (by omega) (by rcases hk with rfl | rfl <;> decide), ⟨fun j hj => ?_, fun j hj => ?_⟩⟩
  · obtain ⟨a, b⟩ := h.2.1 j hj
    simp only [up_g]
    refine ⟨?_, ?_⟩ <;> rw [if_neg (by omega)] <;> assumption
  · simp only [up_g]
    rw [if_neg (by omega)]
    exact h.2.2 j hj
theorem WX.st20 {τ X : St} {i v : Int} (h : WX τ X) (hi : 144 ≤ i) : WX τ (up X 20 i v) := by
  refine ⟨h.1.up (by decide) (by decide), ⟨fun j hj => h.2.1 j hj, fun j hj => ?_⟩⟩
  show (if 20 = 20 ∧ j = i then v else X 20 j) = _
  rw [if_neg (by omega)]
  exact h.2.2 j hj
def MI (C : Int → Int) (n : Int) (τ X s : St) (L : List Tk) : Prop := WX τ X ∧ Fm [] J4 X s ∧ RT C n s L
def MB (τ : St) (r : Int) (s : St) (k : Int) (L : List Tk) : Prop := r = -1 ∧ Fm DL J6 τ s ∧ LoT τ s ∧ s 0 31 = k ∧ ∃ t M, L = t :: M ∧ s 0 32 = t.2.2
def MN2 (C : Int → Int) (n : Int) (τ : St) (Y : Ln → St) (r : Int) (s : St) (R : R2) : Prop := match R with
  | .inl (k, L) => MB τ r s k L
  | .inr (l, M) => r = 0 ∧ MI C n τ (Y l) s M
theorem MI.me {C : Int → Int} {n : Int} {τ X s : St} {L : List Tk} (h : MI C n τ X s L) (e : ME C n τ) : ME C n s := (e.fm h.1.1 (by decide)).fm h.2.1 (by decide)
theorem MI.fm {C : Int → Int} {n : Int} {τ X s s' : St} {L : List Tk} {J : List Int} (h : MI C n τ X s L) (f : Fm [] J s s') (hj : ∀ k, k ∈ J → k ∈ J6) : Fm DL J6 τ s' ∧ LoT τ s' :=
  ⟨((h.1.1.mono (by decide) (by decide)).tr (h.2.1.mono (by decide) (by decide))).tr (f.mono (by decide) hj), (h.1.2.fm h.2.1).fm f⟩
theorem MI.bad {C : Int → Int} {n : Int} {τ X s : St} {t : Tk} {M : List Tk} {k : Int} (h : MI C n τ X s (t :: M)) : ∃ s', fX12_errs k s = some (-1, s') ∧ MB τ (-1) s' k (t :: M) := by
  obtain ⟨s', e, f, a, b⟩ := m_errs (k := k) h.2.2
  obtain ⟨p, q⟩ := h.fm f (by decide)
  exact ⟨s', e, rfl, p, q, a, t, M, rfl, b⟩
/-- a store behind a step -/
theorem MI.st {C : Int → Int} {n : Int} {τ X s : St} {L : List Tk} {k : Nat} {i v : Int} (h : MI C n τ X s L) (hk : k = 18 ∨ k = 19) (hi : 64 ≤ i) : MI C n τ (up X k i v) (up s k i v) L := by
  refine ⟨h.1.st hk hi, ⟨fun k' h0 _ => ?_, fun j hj => ?_⟩, h.2.2.fm (D := [k]) (J := []) (Fm.rf.up (by omega) List.mem_cons_self) ?_⟩
  · funext j
    simp only [up_g]
    rw [h.2.1.1 k' h0 List.not_mem_nil]
  · have e := h.2.1.2 j hj
    simp only [up_g]
    rw [if_neg (by omega), if_neg (by omega)]
    exact e
  · rcases hk with rfl | rfl <;> decide
theorem MB.st {τ s : St} {r k : Int} {L : List Tk} {q : Nat} {i v : Int} (h : MB τ r s k L) (hq : q = 18 ∨ q = 19) (hi : 64 ≤ i) : MB τ r (up s q i v) k L := by
  obtain ⟨a, b, c, d, t, M, e, f⟩ := h
  refine ⟨a, b.up (by omega) (by rcases hq with rfl | rfl <;> decide), ⟨fun j hj => ?_, fun j hj => ?_⟩, ?_, t, M, e, ?_⟩
  · obtain ⟨x, y⟩ := c.1 j hj
    simp only [up_g]
    refine ⟨?_, ?_⟩ <;> rw [if_neg (by omega)] <;> assumption
  · simp only [up_g]
    rw [if_neg (by omega)]
    exact c.2 j hj
  · simp only [up_g]
    rw [if_neg (by omega)]; exact d
  · simp only [up_g]
    rw [if_neg (by omega)]; exact f
theorem MI.num {C : Int → Int} {n : Int} {τ X s : St} {L : List Tk} {lo hi : Int} (c : CC C n) (e : ME C n τ) (h : MI C n τ X s L) : Ok (fX12_readNumber lo hi s) fun r s1 => (∃ t M, L = t :: M ∧ nft t lo hi (-1) = 0 ∧ r = t.2.1 ∧ lo ≤ r ∧ r ≤ hi ∧ 0 ≤ r ∧ r ≤ 9999 ∧ MI C n τ X s1 M) ∨ (∃ t M, L = t :: M ∧ nft t lo hi (-1) ≠ 0 ∧ MB τ r s1 (nft t lo hi (-1)) L) := by
  obtain ⟨t, M, rfl⟩ := h.2.2.cons
  refine ok_mono (m_num c (h.me e) h.2.2) ?_
  rintro r s1 (⟨e0, rfl, r0, r1, f, rt⟩ | ⟨e0, rfl, f, a, b⟩)
  · have b : lo ≤ t.2.1 ∧ t.2.1 ≤ hi := by
      unfold nft at e0
      by_cases k : t.1 = 257
      · rw [if_pos k] at e0
        by_cases b : lo ≤ t.2.1 ∧ t.2.1 ≤ hi ∧ t.2.1 ≠ -1
        · exact ⟨b.1, b.2.1⟩
        · rw [if_neg b] at e0; cases e0
      · rw [if_neg k] at e0; cases e0
    exact Or.inl ⟨t, M, rfl, e0, rfl, b.1, b.2, r0, r1, h.1, h.2.1.tr f, rt⟩
  · obtain ⟨p, q⟩ := h.fm f (by decide)
    exact Or.inr ⟨t, M, rfl, e0, rfl, p, q, a, t, M, rfl, b⟩
/-- a number that goes into a row -/
theorem ms_N0 {β : Type} {F K : St → Rs β} {Q : β → St → Prop} {C : Int → Int} {n : Int} {τ X s : St} {L : List Tk} {lo hi : Int} {k : Nat} {i : Int} (c : CC C n) (e : ME C n τ) (h : MI C n τ X s L) (hk : k = 18 ∨ k = 19) (hb : 64 ≤ i ∧ i < 128) (hF : ∀ t M s', L = t :: M → nft t lo hi (-1) ≠ 0 → MB τ (-1) s' (nft t lo hi (-1)) L → Ok (F s') Q) (hK : ∀ t M s', L = t :: M → nft t lo hi (-1) = 0 → 0 ≤ t.2.1 → t.2.1 ≤ 9999 → lo ≤ t.2.1 → t.2.1 ≤ hi → s' k i = t.2.1 → MI C n τ (up X k i t.2.1) s' M → Ok (K s') Q) : Ok (bnd (fX12_readNumber lo hi s) fun r s1 => sto s1 k 128 i r fun s6 => lod s6 k 128 i fun v7 => if v7 = -1 then F s6 else K s6) Q := by
  rw [ko_bnd]
  refine ok_mono (h.num c e) ?_
  rintro r s1 (⟨t, M, eL, e0, er, b0, b1, r0, r1, h1⟩ | ⟨t, M, eL, e0, hb1⟩)
  · have ee : up s1 k i r k i = r := if_pos ⟨rfl, rfl⟩
    rw [sto_eq (by omega), lod_eq (by omega), ee, if_neg (by omega)]
    subst er
    exact hK t M _ eL e0 r0 r1 b0 b1 ee (h1.st hk hb.1)
  · have ee : up s1 k i r k i = -1 := (if_pos ⟨rfl, rfl⟩).trans hb1.1
    rw [sto_eq (by omega), lod_eq (by omega), ee, if_pos rfl]
    have h2 := hb1.st (v := r) hk hb.1
    exact hF t M _ eL e0 ⟨rfl, h2.2⟩
theorem MI.told {C : Int → Int} {n : Int} {τ X s : St} {L : List Tk} {w lo hi : Int} (c : CC C n) (e : ME C n τ) (h : MI C n τ X s L) (hw : 0 ≤ w ∧ w ≤ 27) : Ok (fX12_readTold w lo hi s) fun r s1 => (∃ t t2 M, L = t :: t2 :: M ∧ t.1 = kW w ∧ nft t2 lo hi (-1) = 0 ∧ r = t2.2.1 ∧ lo ≤ r ∧ r ≤ hi ∧ 0 ≤ r ∧ r ≤ 9999 ∧ MI C n τ X s1 M) ∨ (∃ t t2 M, L = t :: t2 :: M ∧ t.1 = kW w ∧ nft t2 lo hi (-1) ≠ 0 ∧ MB τ r s1 (nft t2 lo hi (-1)) (t2 :: M)) ∨ (∃ t M, L = t :: M ∧ t.1 ≠ kW w ∧ MB τ r s1 1 L) := by
  obtain ⟨t, M, rfl⟩ := h.2.2.cons
  have kb := kW_bd hw
  unfold fX12_readTold
  rw [m_word h.2.2 hw, bnd_some]
  by_cases k : t.1 = kW w
  · rw [if_pos k, if_neg (by decide), ko_bnd]
    have e1 := h.me e
    refine ok_mono (m_reads e1.1 c e1.2 h.2.2 (by omega)) ?_
    rintro _ s1 ⟨f, rt⟩
    have h1 : MI C n τ X s1 M := ⟨h.1, h.2.1.tr f, rt⟩
    rw [bnd_ret]
    refine ok_mono (h1.num c e) ?_
    rintro r s2 (⟨t2, M2, rfl, e0, er, b0, b1, r0, r1, h2⟩ | ⟨t2, M2, rfl, e0, hb1⟩)
    · exact Or.inl ⟨t, t2, M2, rfl, k, e0, er, b0, b1, r0, r1, h2⟩
    · exact Or.inr (Or.inl ⟨t, t2, M2, rfl, k, e0, hb1⟩)
  · obtain ⟨s1, e1, h1⟩ := h.bad (k := 1)
    rw [if_neg k, if_pos rfl, e1, bnd_some]
    exact ok_ret (Or.inr (Or.inr ⟨t, M, rfl, k, h1⟩))
/-- a word and a number that goes into a row -/
theorem ms_T {C : Int → Int} {n : Int} {τ X s : St} {L : List Tk} {w kw lo hi : Int} {k : Nat} {i : Int} {Y : Ln → St} {g : Int → List Tk → R2} {K : St → Rs Int} (c : CC C n) (e : ME C n τ) (h : MI C n τ X s L) (hw : (0 ≤ w ∧ w ≤ 27) ∧ kw = kW w) (hk : k = 18 ∨ k = 19) (hb : 64 ≤ i ∧ i < 128) (hK : ∀ v s' M, 0 ≤ v → v ≤ 9999 → lo ≤ v → v ≤ hi → s' k i = v → MI C n τ (up X k i v) s' M → Ok (K s') fun r s2 => MN2 C n τ Y r s2 (g v M)) : Ok (bnd (fX12_readTold w lo hi s) fun r s1 => sto s1 k 128 i r fun s6 => lod s6 k 128 i fun v7 => if v7 = -1 then some (-1, s6) else K s6) fun r s2 => MN2 C n τ Y r s2 (tkW kw L fun L => tkN lo hi (-1) L g) := by
  obtain ⟨hw, rfl⟩ := hw
  rw [ko_bnd]
  refine ok_mono (h.told c e hw) ?_
  rintro r s1 (⟨t, t2, M, rfl, k0, e0, er, b0, b1, r0, r1, h1⟩ | ⟨t, t2, M, rfl, k0, e0, hb1⟩ | ⟨t, M, rfl, k0, hb1⟩)
  · show Ok _ fun r s2 => MN2 C n τ Y r s2 (if t.1 = kW w then (if nft t2 lo hi (-1) = 0 then g t2.2.1 M else .inl (nft t2 lo hi (-1), t2 :: M)) else .inl (1, t :: t2 :: M))
    have ee : up s1 k i r k i = r := if_pos ⟨rfl, rfl⟩
    rw [sto_eq (by omega), lod_eq (by omega), ee, if_neg (by omega), if_pos k0, if_pos e0, ← er]
    exact hK r _ M r0 r1 b0 b1 ee (h1.st hk hb.1)
  · show Ok _ fun r s2 => MN2 C n τ Y r s2 (if t.1 = kW w then (if nft t2 lo hi (-1) = 0 then g t2.2.1 M else .inl (nft t2 lo hi (-1), t2 :: M)) else .inl (1, t :: t2 :: M))
    have ee : up s1 k i r k i = -1 := (if_pos ⟨rfl, rfl⟩).trans hb1.1
    rw [sto_eq (by omega), lod_eq (by omega), ee, if_pos rfl, if_pos k0, if_neg e0]
    have h2 := hb1.st (v := r) hk hb.1
    exact ok_ret (show MB τ (-1) _ _ _ from ⟨rfl, h2.2⟩)
  · show Ok _ fun r s2 => MN2 C n τ Y r s2 (if t.1 = kW w then _ else .inl (1, t :: M))
    have ee : up s1 k i r k i = -1 := (if_pos ⟨rfl, rfl⟩).trans hb1.1
    rw [sto_eq (by omega), lod_eq (by omega), ee, if_pos rfl, if_neg k0]
    have h2 := hb1.st (v := r) hk hb.1
    exact ok_ret (show MB τ (-1) _ _ _ from ⟨rfl, h2.2⟩)
theorem ms_E0 {C : Int → Int} {n : Int} {τ X s : St} {L : List Tk} {Y : Ln → St} {l : Ln} (c : CC C n) (e : ME C n τ) (h : MI C n τ X s L) (hY : Y l = X) : Ok (fX12_readMark 59 s) fun r s2 => MN2 C n τ Y r s2 (tkE l L) := by
  obtain ⟨t, M, rfl⟩ := h.2.2.cons
  show Ok _ fun r s2 => MN2 C n τ Y r s2 (if t.1 = 59 then .inr (l, M) else .inl (1, t :: M))
  refine ok_mono (m_mark c (h.me e) h.2.2 (by decide)) ?_
  rintro r s1 (⟨k, rfl, f, rt⟩ | ⟨k, rfl, f, a, b⟩)
  · rw [if_pos k]
    exact ⟨rfl, by rw [hY]; exact h.1, by rw [hY]; exact h.2.1.tr f, rt⟩
  · rw [if_neg k]
    obtain ⟨p, q⟩ := h.fm f (by decide)
    exact ⟨rfl, p, q, a, t, M, rfl, b⟩
def PM (τ : St) (P Q : Int) : Prop := τ 0 7 = P ∧ τ 0 6 = Q ∧ 0 ≤ P ∧ P ≤ 20 ∧ 0 ≤ Q ∧ Q ≤ 12
theorem MI.p {C : Int → Int} {n : Int} {τ X s : St} {L : List Tk} {P Q : Int} (h : MI C n τ X s L) (q : PM τ P Q) : w32 (s 0 7 - 1) = P - 1 ∧ w32 (s 0 6 - 1) = Q - 1 := by
  obtain ⟨a, b, c, d, e, f⟩ := q
  rw [h.2.1.2 7 (by decide), h.1.1.2 7 (by decide), h.2.1.2 6 (by decide), h.1.1.2 6 (by decide), a, b, w32_sm (by omega), w32_sm (by omega)]
  exact ⟨rfl, rfl⟩
/-- the four numbers of a line -/
def Y4 (X : St) (k : Nat) (i o : Int) (l : Ln) : St := up (up (up (up X k i l.1) k (i + 1) (l.2.1 - o)) k (i + 2) l.2.2.1) k (i + 3) l.2.2.2
theorem m_call {C : Int → Int} {n : Int} {τ X s : St} {t : Tk} {M : List Tk} {P Q : Int} {j : Nat} (c : CC C n) (e : ME C n τ) (q : PM τ P Q) (h : MI C n τ X s (t :: M)) (k0 : t.1 = 280) (hj : j < 16) : Ok (fX12_readCall (w32 (64 + w32 (4 * (j : Int)))) s) fun r s2 => MN2 C n τ (Y4 X 18 (64 + 4 * (j : Int)) 0) r s2 (pCall P Q M) := by
  have e0 : pCall P Q M = tkW 280 (t :: M) (pCall P Q) := by
    show _ = if t.1 = 280 then pCall P Q M else _
    rw [if_pos k0]
  rw [e0, w32_sm (x := 4 * (j : Int)) (by omega), w32_sm (by omega)]
  unfold fX12_readCall
  rw [fld_eq, (h.p q).1]
  refine ms_T c e h ⟨by decide, rfl⟩ (Or.inl rfl) (by omega) fun a s1 M1 a0 a1 _ _ _ h1 => ?_
  rw [w32_sm (x := 64 + 4 * (j : Int) + 1) (by omega)]
  refine ms_T c e h1 ⟨by decide, rfl⟩ (Or.inl rfl) (by omega) fun b s2 M2 b0 b1 _ _ _ h2 => ?_
  rw [fld_eq, (h2.p q).2, w32_sm (x := 64 + 4 * (j : Int) + 2) (by omega)]
  refine ms_T c e h2 ⟨by decide, rfl⟩ (Or.inl rfl) (by omega) fun d s3 M3 d0 d1 _ _ _ h3 => ?_
  rw [w32_sm (x := 64 + 4 * (j : Int) + 3) (by omega)]
  refine ms_T c e h3 ⟨by decide, rfl⟩ (Or.inl rfl) (by omega) fun f s4 M4 f0 f1 _ _ _ h4 => ?_
  rw [bnd_ret]
  refine ms_E0 c e h4 ?_
  unfold Y4
  rw [show b - 0 = b by omega]
theorem m_deed {C : Int → Int} {n : Int} {τ X s : St} {t : Tk} {M : List Tk} {P Q : Int} {j : Nat} (c : CC C n) (e : ME C n τ) (q : PM τ P Q) (h : MI C n τ X s (t :: M)) (k0 : t.1 = 284) (hj : j < 16) : Ok (fX12_readDeed (w32 (64 + w32 (4 * (j : Int)))) s) fun r s2 => MN2 C n τ (Y4 X 19 (64 + 4 * (j : Int)) 285) r s2 (pDeed P Q M) := by
  have e0 : pDeed P Q M = tkW 284 (t :: M) (pDeed P Q) := by
    show _ = if t.1 = 284 then pDeed P Q M else _
    rw [if_pos k0]
  rw [e0, w32_sm (x := 4 * (j : Int)) (by omega), w32_sm (by omega)]
  unfold fX12_readDeed
  refine ms_T c e h ⟨by decide, rfl⟩ (Or.inr rfl) (by omega) fun a s1 M1 a0 a1 _ _ _ h1 => ?_
  obtain ⟨u, M2, rfl⟩ := h1.2.2.cons
  show Ok _ fun r s2 => MN2 C n τ (Y4 X 19 (64 + 4 * (j : Int)) 285) r s2 (if 285 ≤ u.1 ∧ u.1 ≤ 288 then tkN 0 (if u.1 = 287 then 59 else Q - 1) (-1) M2 fun c L =>
    if u.1 = 285 then tkN 0 99 (-1) L fun d L => tkE (a, u.1, c, d) L else if u.1 = 288 then tkN 0 (P - 1) (-1) L fun d L => tkE (a, u.1, c, d) L else tkE (a, u.1, c, 0) L else .inl (1, u :: M2))
  have kr := h1.2.2.1
  have bad : ¬ (285 ≤ u.1 ∧ u.1 ≤ 288) → Ok (bnd (fX12_errs 1 s1) fun r53 s54 => some (r53, s54)) fun r s2 => MN2 C n τ (Y4 X 19 (64 + 4 * (j : Int)) 285) r s2 (if 285 ≤ u.1 ∧ u.1 ≤ 288 then tkN 0 (if u.1 = 287 then 59 else Q - 1) (-1) M2 fun c L =>
    if u.1 = 285 then tkN 0 99 (-1) L fun d L => tkE (a, u.1, c, d) L else if u.1 = 288 then tkN 0 (P - 1) (-1) L fun d L => tkE (a, u.1, c, d) L else tkE (a, u.1, c, 0) L else .inl (1, u :: M2)) := by
    intro g
    obtain ⟨s2, e2, h2⟩ := h1.bad (k := 1)
    rw [if_neg g, e2, bnd_some]
    exact ok_ret h2
  rw [fld_eq]
  by_cases k2 : s1 0 16 = 2
  · obtain ⟨w0, w1, w2⟩ := kr.k2.2 k2
    rw [if_pos k2, fld_eq, isIn_eq, bnd_some]
    unfold kW at w2
    by_cases g : 22 ≤ s1 0 17 ∧ s1 0 17 ≤ 25
    · have gu : 285 ≤ u.1 ∧ u.1 ≤ 288 := by split at w2 <;> omega
      have ev : s1 0 17 - 22 = u.1 - 285 := by split at w2 <;> omega
      rw [if_pos g, if_neg (by decide), fld_eq, w32_sm (x := s1 0 17 - 22) (by omega), lb_eq, ev, if_pos gu, bnx_bnd, ko_bnd]
      have em := h1.me e
      refine ok_mono (m_reads em.1 c em.2 h1.2.2 (by omega)) ?_
      rintro _ s2 ⟨f2, r2⟩
      have h2 : MI C n τ _ s2 M2 := ⟨h1.1, h1.2.1.tr f2, r2⟩
      rw [w32_sm (x := 64 + 4 * (j : Int) + 1) (by omega), w32_sm (x := 64 + 4 * (j : Int) + 2) (by omega), w32_sm (x := 64 + 4 * (j : Int) + 3) (by omega)]
      have h3 := h2.st (k := 19) (i := 64 + 4 * (j : Int) + 1) (v := u.1 - 285) (Or.inr rfl) (by omega)
      rw [sto_eq (by omega)]
      have ey : ∀ s4 : St, s4 0 6 = s2 0 6 → (if u.1 - 285 = 2 then (some (59, s4) : Rs Int) else fld s4 0 6 fun v22 => some (w32 (v22 - 1), s4)) = some (if u.1 = 287 then 59 else Q - 1, s4) := by
        intro s4 q4
        rw [fld_eq, q4, (h2.p q).2]
        by_cases k7 : u.1 = 287
        · rw [if_pos (by omega), if_pos k7]
        · rw [if_neg (by omega), if_neg k7]
      rw [ey _ (by simp only [up_g]; rw [if_neg (by omega)]), bnd_some]
      have fin : ∀ d s6 M6 v2, MI C n τ (up (up (up (up X 19 (64 + 4 * (j : Int)) a) 19 (64 + 4 * (j : Int) + 1) (u.1 - 285)) 19 (64 + 4 * (j : Int) + 2) v2) 19 (64 + 4 * (j : Int) + 3) d) s6 M6 → Ok (bnd (fX12_readMark 59 s6) fun r47 s48 => some ((.inr r47 : Unit ⊕ Int), s48)) (Jx (fun (_ : Unit) s51 => Ok (bnd (fX12_errs 1 s51) fun r53 s54 => some (r53, s54)) fun r s2 => MN2 C n τ (Y4 X 19 (64 + 4 * (j : Int)) 285) r s2 (tkE (a, u.1, v2, d) M6)) fun r s2 => MN2 C n τ (Y4 X 19 (64 + 4 * (j : Int)) 285) r s2 (tkE (a, u.1, v2, d) M6)) := by
        intro d s6 M6 v2 h6
        rw [ko_bnd]
        refine ok_mono (ms_E0 (Y := Y4 X 19 (64 + 4 * (j : Int)) 285) (l := (a, u.1, v2, d)) c e h6 rfl) fun r s x => ok_ret x
      rw [ko_bnx]
      refine ms_N0 (k := 19) (i := 64 + 4 * (j : Int) + 2) c e h3 (Or.inr rfl) (by omega) (fun t3 M3 s' eL e0 hb => ?_) fun t3 M3 s4 eL e0 v0 v1 lo hi _ h4 => ?_
      · subst eL
        refine ok_ret (show MN2 C n τ _ (-1) s' (if nft t3 0 (if u.1 = 287 then 59 else Q - 1) (-1) = 0 then _ else .inl (_, t3 :: M3)) from ?_)
        rw [if_neg e0]
        exact hb
      · subst eL
        show Ok _ (Jx (fun _ s51 => Ok _ fun r s2 => MN2 C n τ _ r s2 (if nft t3 0 (if u.1 = 287 then 59 else Q - 1) (-1) = 0 then _ else .inl (_, t3 :: M3))) fun r s2 => MN2 C n τ _ r s2 (if nft t3 0 (if u.1 = 287 then 59 else Q - 1) (-1) = 0 then _ else .inl (_, t3 :: M3)))
        rw [if_pos e0]
        by_cases k5 : u.1 = 285
        · rw [if_pos (show u.1 - 285 = 0 by omega), bnd_ret, if_pos k5]
          refine ms_N0 (k := 19) (i := 64 + 4 * (j : Int) + 3) c e h4 (Or.inr rfl) (by omega) (fun t5 M5 s' eL e0 hb => ?_) fun t5 M5 s6 eL e0 _ _ _ _ _ h6 => ?_
          · subst eL
            refine ok_ret (show MN2 C n τ _ (-1) s' (if nft t5 0 99 (-1) = 0 then _ else .inl (_, t5 :: M5)) from ?_)
            rw [if_neg e0]
            exact hb
          · subst eL
            show Ok _ (Jx (fun _ s51 => Ok _ fun r s2 => MN2 C n τ _ r s2 (if nft t5 0 99 (-1) = 0 then _ else .inl (_, t5 :: M5))) fun r s2 => MN2 C n τ _ r s2 (if nft t5 0 99 (-1) = 0 then _ else .inl (_, t5 :: M5)))
            rw [if_pos e0]
            exact fin _ _ _ _ h6
        · rw [if_neg (show ¬ u.1 - 285 = 0 by omega), if_neg k5]
          by_cases k8 : u.1 = 288
          · rw [if_pos (show u.1 - 285 = 3 by omega), fld_eq, (h4.p q).1, bnd_ret, if_pos k8]
            refine ms_N0 (k := 19) (i := 64 + 4 * (j : Int) + 3) c e h4 (Or.inr rfl) (by omega) (fun t5 M5 s' eL e0 hb => ?_) fun t5 M5 s6 eL e0 _ _ _ _ _ h6 => ?_
            · subst eL
              refine ok_ret (show MN2 C n τ _ (-1) s' (if nft t5 0 (P - 1) (-1) = 0 then _ else .inl (_, t5 :: M5)) from ?_)
              rw [if_neg e0]
              exact hb
            · subst eL
              show Ok _ (Jx (fun _ s51 => Ok _ fun r s2 => MN2 C n τ _ r s2 (if nft t5 0 (P - 1) (-1) = 0 then _ else .inl (_, t5 :: M5))) fun r s2 => MN2 C n τ _ r s2 (if nft t5 0 (P - 1) (-1) = 0 then _ else .inl (_, t5 :: M5)))
              rw [if_pos e0]
              exact fin _ _ _ _ h6
          · rw [if_neg (show ¬ u.1 - 285 = 3 by omega), bnd_some, if_neg k8]
            have ee : up s4 19 (64 + 4 * (j : Int) + 3) 0 19 (64 + 4 * (j : Int) + 3) = 0 := if_pos ⟨rfl, rfl⟩
            rw [sto_eq (by omega), lod_eq (by omega), ee, if_neg (by decide)]
            exact fin _ _ _ _ (h4.st (Or.inr rfl) (by omega))
    · rw [if_neg g, if_pos rfl, bnx_inl]
      exact bad (by split at w2 <;> omega)
  · rw [if_neg k2, bnx_inl]
    exact bad (fun q => k2 (kr.k2.1.mpr (by omega)))
