/-! TEXT: a line of the street; the reference -/
def fup (X : St) (i v : Int) : St := if X 20 i = 0 ∨ v < X 20 i then up X 20 i v else X
theorem takesFeet_eq {i v : Int} {s : St} (h : 0 ≤ i ∧ i < 288) : fX12_takesFeet i v s = some (0, fup s i v) := by
  unfold fX12_takesFeet fup
  rw [lod_eq (by omega), sto_eq (by omega), lod_eq (by omega)]
  by_cases a : s 20 i = 0
  · rw [if_pos a, if_pos (Or.inl a)]
  · rw [if_neg a]
    by_cases b : v < s 20 i
    · rw [if_pos b, if_pos (Or.inr b)]
    · rw [if_neg b, if_neg (by omega)]
theorem MI.feet {C : Int → Int} {n : Int} {τ X s : St} {L : List Tk} {i v : Int} (h : MI C n τ X s L) (hi : 144 ≤ i) : MI C n τ (fup X i v) (fup s i v) L := by
  have e20 : s 20 = X 20 := h.2.1.1 20 (by decide) (by decide)
  unfold fup
  rw [e20]
  by_cases g : X 20 i = 0 ∨ v < X 20 i
  · rw [if_pos g, if_pos g]
    refine ⟨h.1.st20 hi, ⟨fun k' h0 _ => ?_, fun j hj => ?_⟩, h.2.2.fm (D := [20]) (J := []) (Fm.rf.up (by decide) (by decide)) (by decide)⟩
    · funext j
      simp only [up_g]
      rw [h.2.1.1 k' h0 List.not_mem_nil]
    · have e := h.2.1.2 j hj
      simp only [up_g]
      rw [if_neg (by omega), if_neg (by omega)]
      exact e
  · rw [if_neg g, if_neg g]
    exact h
theorem nft_x {t : Tk} {lo hi a : Int} (h0 : 0 ≤ lo) (h : t.1 = 257 → t.2.1 ≠ a) : nft t lo hi (-1) = nft t lo hi a := by
  unfold nft
  by_cases k : t.1 = 257
  · rw [if_pos k, if_pos k]
    by_cases b : lo ≤ t.2.1 ∧ t.2.1 ≤ hi
    · rw [if_pos ⟨b.1, b.2, by omega⟩, if_pos ⟨b.1, b.2, h k⟩]
    · rw [if_neg (fun q => b ⟨q.1, q.2.1⟩), if_neg (fun q => b ⟨q.1, q.2.1⟩)]
  · rw [if_neg k, if_neg k]
def YR (X : St) (l : Ln) : St := fup (fup X (144 + 12 * l.1 + l.2.1) l.2.2.1) (144 + 12 * l.2.1 + l.1) l.2.2.1
theorem m_road {C : Int → Int} {n : Int} {τ X s : St} {t : Tk} {M : List Tk} {P Q : Int} (c : CC C n) (e : ME C n τ) (q : PM τ P Q) (h : MI C n τ X s (t :: M)) (k0 : t.1 = 289) : Ok (fX12_readRoad s) fun r s2 => MN2 C n τ (YR X) r s2 (pRoad Q M) := by
  have q6 := q.2.2.2.2.2
  unfold fX12_readRoad
  rw [fld_eq, (h.p q).2, ko_bnd]
  refine ok_mono (h.told c e (by decide)) ?_
  rintro r s1 (⟨t', t2, M, eL, _, e0, rfl, b0, b1, r0, r1, h1⟩ | ⟨t', t2, M, eL, _, e0, hb1⟩ | ⟨t', M, eL, k1, hb1⟩)
  · cases eL
    rw [if_neg (by omega)]
    obtain ⟨u, M, rfl⟩ := h1.2.2.cons
    show Ok _ fun r s2 => MN2 C n τ (YR X) r s2 (if nft t2 0 (Q - 1) (-1) = 0 then (if u.1 = 290 then tkN 0 (Q - 1) t2.2.1 M fun b L => tkN 1 99 (-1) L fun d L => tkE (t2.2.1, b, d, 0) L else .inl (1, u :: M)) else .inl (nft t2 0 (Q - 1) (-1), t2 :: u :: M))
    rw [if_pos e0, m_word h1.2.2 (by decide), bnd_some, show kW 27 = 290 from rfl]
    by_cases ku : u.1 = 290
    · rw [if_pos ku, if_neg (by decide), if_pos ku, ko_bnd]
      have em := h1.me e
      refine ok_mono (m_reads em.1 c em.2 h1.2.2 (by omega)) ?_
      rintro _ s2 ⟨f2, r2⟩
      have h2 : MI C n τ X s2 M := ⟨h1.1, h1.2.1.tr f2, r2⟩
      obtain ⟨t3, M, rfl⟩ := r2.cons
      show Ok _ fun r s2 => MN2 C n τ (YR X) r s2 (if nft t3 0 (Q - 1) t2.2.1 = 0 then tkN 1 99 (-1) M fun d L => tkE (t2.2.1, t3.2.1, d, 0) L else .inl (nft t3 0 (Q - 1) t2.2.1, t3 :: M))
      have kr := h2.2.2.1
      have go : (t3.1 = 257 → t3.2.1 ≠ t2.2.1) → Ok (fld s2 0 6 fun v22 => bnd (fX12_readNumber 0 (w32 (v22 - 1)) s2) fun r24 s25 => if r24 = (-1) then some ((-1), s25) else bnd (fX12_readNumber 1 99 s25) fun r27 s28 => if r27 = (-1) then some ((-1), s28) else bnd (fX12_takesFeet (w32 (w32 (144 + w32 (12 * t2.2.1)) + r24)) r27 s28) fun _ s31 => bnd (fX12_takesFeet (w32 (w32 (144 + w32 (12 * r24)) + t2.2.1)) r27 s31) fun _ s34 => bnd (fX12_readMark 59 s34) fun r36 s37 => some (r36, s37)) fun r s2 => MN2 C n τ (YR X) r s2 (if nft t3 0 (Q - 1) t2.2.1 = 0 then tkN 1 99 (-1) M fun d L => tkE (t2.2.1, t3.2.1, d, 0) L else .inl (nft t3 0 (Q - 1) t2.2.1, t3 :: M)) := by
        intro ne
        rw [← nft_x (by decide) ne, fld_eq, (h2.p q).2, ko_bnd]
        refine ok_mono (h2.num c e) ?_
        rintro r s3 (⟨t4, M4, eL, e4, rfl, b2, b3, r2, r3, h3⟩ | ⟨t4, M4, eL, e4, hb3⟩)
        · cases eL
          rw [if_neg (by omega), if_pos e4, ko_bnd]
          refine ok_mono (h3.num c e) ?_
          rintro r s4 (⟨t5, M5, rfl, e5, rfl, b4, b5, r4, r5, h4⟩ | ⟨t5, M5, rfl, e5, hb4⟩)
          · show Ok _ fun r s2 => MN2 C n τ (YR X) r s2 (if nft t5 1 99 (-1) = 0 then tkE (t2.2.1, t3.2.1, t5.2.1, 0) M5 else _)
            rw [if_neg (by omega), if_pos e5, w32_sm (x := 12 * t2.2.1) (by omega), w32_sm (x := 144 + 12 * t2.2.1) (by omega), w32_sm (x := 144 + 12 * t2.2.1 + t3.2.1) (by omega), takesFeet_eq (by omega), bnd_some, w32_sm (x := 12 * t3.2.1) (by omega), w32_sm (x := 144 + 12 * t3.2.1) (by omega), w32_sm (x := 144 + 12 * t3.2.1 + t2.2.1) (by omega), takesFeet_eq (by omega), bnd_some, bnd_ret]
            exact ms_E0 c e ((h4.feet (by omega)).feet (by omega)) rfl
          · show Ok _ fun r s2 => MN2 C n τ (YR X) r s2 (if nft t5 1 99 (-1) = 0 then _ else .inl (_, t5 :: M5))
            rw [if_pos hb4.1, if_neg e5]
            exact ok_ret (show MB τ (-1) _ _ _ from ⟨rfl, hb4.2⟩)
        · cases eL
          rw [if_pos hb3.1, if_neg e4]
          exact ok_ret (show MB τ (-1) _ _ _ from ⟨rfl, hb3.2⟩)
      rw [fld_eq]
      by_cases k3 : s2 0 16 = 3
      · have t7 := kr.k3.1.mp k3
        obtain ⟨wv, _, _⟩ := kr.k3.2 t7
        rw [if_pos k3, fld_eq, wv]
        by_cases ea : t3.2.1 = t2.2.1
        · obtain ⟨s3, e3, h3⟩ := h2.bad (k := 2)
          have en : nft t3 0 (Q - 1) t2.2.1 = 2 := by
            unfold nft
            rw [if_pos t7, if_neg (fun z => z.2.2 ea)]
          rw [if_pos ea, e3, bnd_some, bnx_inr, en, if_neg (by decide)]
          exact ok_ret h3
        · rw [if_neg ea, bnx_inl]
          exact go (fun _ => ea)
      · rw [if_neg k3, bnx_inl]
        exact go (fun z => absurd (kr.k3.1.mpr z) k3)
    · obtain ⟨s2, e2, h2⟩ := h1.bad (k := 1)
      rw [if_neg ku, if_pos rfl, if_neg ku, e2, bnd_some]
      exact ok_ret h2
  · cases eL
    rw [if_pos hb1.1]
    show Ok _ fun r s2 => MN2 C n τ (YR X) r s2 (if nft t2 0 (Q - 1) (-1) = 0 then _ else .inl (nft t2 0 (Q - 1) (-1), t2 :: M))
    rw [if_neg e0]
    exact ok_ret (show MB τ (-1) _ _ _ from ⟨rfl, hb1.2⟩)
  · cases eL
    exact absurd k0 k1
