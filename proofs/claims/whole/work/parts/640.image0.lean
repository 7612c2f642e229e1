/-! IMAGE: what it has where -/
def ImC (c : Nat) (i : Int) : Prop := match c with
  | 0 => i = 6 ∨ i = 7 ∨ i = 35 ∨ i = 37 ∨ i = 39 ∨ i = 49 ∨ i = 52 ∨ i = 58 ∨ i = 62 ∨ i = 64 ∨ i = 70 ∨ i = 72
  | 1 => 0 ≤ i ∧ i < 161
  | 42 => 0 ≤ i ∧ i < 3
  | 23 => 0 ≤ i ∧ i < 10
  | 29 => 0 ≤ i ∧ i < 5
  | 30 => 0 ≤ i ∧ i < 5
  | 36 => 0 ≤ i ∧ i < 8
  | 45 => 0 ≤ i ∧ i < 8
  | 46 => 0 ≤ i ∧ i < 8
  | 40 => 0 ≤ i ∧ i < 24
  | 43 => 0 ≤ i ∧ i < 72
  | 4 => 0 ≤ i ∧ i < 12
  | 31 => 0 ≤ i ∧ i < 12
  | 32 => 0 ≤ i ∧ i < 12
  | 33 => 0 ≤ i ∧ i < 12
  | 34 => 0 ≤ i ∧ i < 12
  | 39 => 0 ≤ i ∧ i < 12
  | 5 => 0 ≤ i ∧ i < 20
  | 6 => 0 ≤ i ∧ i < 20
  | 20 => 0 ≤ i ∧ i < 144
  | 18 => 0 ≤ i ∧ i < 64
  | 19 => 0 ≤ i ∧ i < 64
  | 7 => 0 ≤ i ∧ i < 750
  | 10 => i = 0
  | 11 => 0 ≤ i ∧ i < 16
  | 12 => 0 ≤ i ∧ i < 16
  | 13 => 0 ≤ i ∧ i < 16
  | 14 => 0 ≤ i ∧ i < 16
  | 15 => 0 ≤ i ∧ i < 400
  | 16 => 0 ≤ i ∧ i < 400
  | _ => False
/-- where it comes from -/
def qC (q : Int) : Nat × Int :=
  if q < 161 then (1, q)
  else if q < 176 then (if q = 161 then (0, 6) else if q = 162 then (0, 7) else if q = 163 then (0, 35) else if q = 164 then (0, 37) else if q = 165 then (0, 39) else if q = 166 then (0, 49) else if q = 167 then (0, 52) else if q = 168 then (0, 58) else if q = 169 then (0, 62) else if q = 170 then (0, 64) else if q < 174 then (42, q - 171) else if q = 174 then (0, 70) else (0, 72))
  else if q < 186 then (23, q - 176)
  else if q < 196 then (if (q - 186) % 2 = 0 then (29, (q - 186) / 2) else (30, (q - 186) / 2))
  else if q < 220 then (if (q - 196) % 3 = 0 then (36, (q - 196) / 3) else if (q - 196) % 3 = 1 then (45, (q - 196) / 3) else (46, (q - 196) / 3))
  else if q < 244 then (40, q - 220)
  else if q < 316 then (43, q - 244)
  else if q < 388 then (if (q - 316) % 6 = 0 then (4, (q - 316) / 6) else if (q - 316) % 6 = 1 then (31, (q - 316) / 6) else if (q - 316) % 6 = 2 then (32, (q - 316) / 6) else if (q - 316) % 6 = 3 then (33, (q - 316) / 6) else if (q - 316) % 6 = 4 then (34, (q - 316) / 6) else (39, (q - 316) / 6))
  else if q < 428 then (if (q - 388) % 2 = 0 then (5, (q - 388) / 2) else (6, (q - 388) / 2))
  else if q < 572 then (20, q - 428)
  else if q < 636 then (18, q - 572)
  else if q < 700 then (19, q - 636)
  else if q < 1450 then (7, q - 700)
  else if q = 1450 then (10, 0)
  else if q < 1515 then (if (q - 1451) % 4 = 0 then (11, (q - 1451) / 4) else if (q - 1451) % 4 = 1 then (12, (q - 1451) / 4) else if (q - 1451) % 4 = 2 then (13, (q - 1451) / 4) else (14, (q - 1451) / 4))
  else if (q - 1515) % 2 = 0 then (15, (q - 1515) / 2) else (16, (q - 1515) / 2)
theorem qC_ipos {c : Nat} {i : Int} (h : ImC c i) : qC (ipos c i) = (c, i) ∧ 0 ≤ ipos c i ∧ ipos c i < 2315 := by
  unfold ImC at h
  split at h
  · rcases h with rfl | rfl | rfl | rfl | rfl | rfl | rfl | rfl | rfl | rfl | rfl | rfl <;> exact ⟨by decide, by decide, by decide⟩
  all_goals first
    | exact False.elim h
    | (subst h; exact ⟨by decide, by decide, by decide⟩)
    | (simp only [ipos]
       refine ⟨?_, by omega, by omega⟩
       unfold qC
       (repeat (first | rw [if_neg (by omega)] | rw [if_pos (by omega)]))
       all_goals (first | rfl | (congr 1; omega)))
theorem ipos_inj {c c' : Nat} {i i' : Int} (h : ImC c i) (h' : ImC c' i') (e : ipos c i = ipos c' i') : c = c' ∧ i = i' := by
  have a := (qC_ipos h).1
  rw [e, (qC_ipos h').1] at a
  exact ⟨(congrArg Prod.fst a).symm, (congrArg Prod.snd a).symm⟩
/-- how far the image has come -/
def imC : List Nat := [1, 42, 23, 29, 30, 36, 45, 46, 40, 43, 4, 31, 32, 33, 34, 39, 5, 6, 20, 18, 19, 7, 10, 11, 12, 13, 14, 15, 16]
def imJ : List Int := [6, 7, 35, 37, 39, 49, 52, 58, 62, 64, 70, 72]
theorem imC_mem {c : Nat} {i : Int} (h : ImC c i) : c = 0 ∧ i ∈ imJ ∨ c ∈ imC := by
  unfold ImC at h
  split at h
  · left
    refine ⟨rfl, ?_⟩
    unfold imJ
    simp only [List.mem_cons, List.not_mem_nil, or_false]
    exact h
  all_goals first
    | exact False.elim h
    | exact Or.inr (by decide)
def IJ (p : Int) (τ : St) (K : Int) (t : St) : Prop := (t 0 85 = K ∧ t 0 83 = p) ∧ Fm (56 :: imC) (85 :: imJ) τ t ∧
  (p = 0 → t 56 = τ 56 ∧ ∀ c i, ImC c i → t c i = if ipos c i < K then τ 56 (ipos c i) else τ c i) ∧
  (p ≠ 0 → (∀ c i, ImC c i → t c i = τ c i ∧ (ipos c i < K → t 56 (ipos c i) = τ c i)))
theorem keeps_eq {p K v : Int} {t : St} (h85 : t 0 85 = K) (h83 : t 0 83 = p) (hK : 0 ≤ K ∧ K < 2600) : fX12_keeps v t = some (if p = 0 then t 56 K else v, if p = 0 then up t 0 85 (K + 1) else up (up t 0 85 (K + 1)) 56 K v) := by
  have w1 : w32 (K + 1) = K + 1 := w32_sm (by omega)
  have w2 : w32 (K + 1 - 1) = K := by rw [w32_sm (by omega)]; omega
  have e83 : up t 0 85 (K + 1) 0 83 = p := by rw [up_at, if_neg (by decide)]; exact h83
  have e85 : up t 0 85 (K + 1) 0 85 = K + 1 := by rw [up_at, if_pos rfl]
  unfold fX12_keeps
  simp only [fld_eq, put_eq]
  rw [h85, w1, e83, e85, w2]
  by_cases c : p = 0
  · rw [if_pos c, if_pos c, if_pos c, lod_eq (by omega)]
    rfl
  · rw [if_neg c, if_neg c, if_neg c, sto_eq (by omega)]
theorem IJ.step {p K : Int} {τ t : St} {c : Nat} {i : Int} (h : IJ p τ K t) (hm : ImC c i) (hk : ipos c i = K) : IJ p τ (K + 1) (up (if p = 0 then up t 0 85 (K + 1) else up (up t 0 85 (K + 1)) 56 K (t c i)) c i (if p = 0 then t 56 K else t c i)) := by
  obtain ⟨⟨h85, h83⟩, hf, h0, h1⟩ := h
  have mem := imC_mem hm
  have n0 : ¬ (c = 0 ∧ i = 85) ∧ ¬ (c = 0 ∧ i = 83) ∧ c ≠ 56 := by
    rcases mem with ⟨rfl, hi⟩ | hc
    · unfold imJ at hi
      simp only [List.mem_cons, List.not_mem_nil, or_false] at hi
      omega
    · unfold imC at hc
      simp only [List.mem_cons, List.not_mem_nil, or_false] at hc
      omega
  have fmS : ∀ s v, Fm (56 :: imC) (85 :: imJ) τ s → Fm (56 :: imC) (85 :: imJ) τ (up s c i v) := fun s v hs => by
    rcases mem with ⟨rfl, hi⟩ | hc
    · exact hs.u0 (List.mem_cons_of_mem _ hi)
    · refine hs.up ?_ (List.mem_cons_of_mem _ hc)
      intro e
      rw [e] at hc
      revert hc
      decide
  have f1 : Fm (56 :: imC) (85 :: imJ) τ (up t 0 85 (K + 1)) := hf.u0 (by decide)
  have other : ∀ c' i', ImC c' i' → ¬ (c' = c ∧ i' = i) → ipos c' i' ≠ K := fun c' i' hm' ne e => ne (ipos_inj hm' hm (e.trans hk.symm))
  have n85 : ∀ c' i', ImC c' i' → ¬ (c' = 0 ∧ i' = 85) ∧ c' ≠ 56 := fun c' i' hm' => by
    rcases imC_mem hm' with ⟨rfl, hi⟩ | hc
    · unfold imJ at hi
      simp only [List.mem_cons, List.not_mem_nil, or_false] at hi
      omega
    · unfold imC at hc
      simp only [List.mem_cons, List.not_mem_nil, or_false] at hc
      omega
  by_cases z : p = 0
  · rw [if_pos z, if_pos z]
    obtain ⟨g1, g2⟩ := h0 z
    refine ⟨⟨?_, ?_⟩, fmS _ _ f1, fun _ => ⟨?_, fun c' i' hm' => ?_⟩, fun x => absurd z x⟩
    · rw [up_g, if_neg (show ¬ ((0 : Nat) = c ∧ (85 : Int) = i) from fun x => n0.1 ⟨x.1.symm, x.2.symm⟩), up_g, if_pos (And.intro rfl rfl)]
    · rw [up_g, if_neg (show ¬ ((0 : Nat) = c ∧ (83 : Int) = i) from fun x => n0.2.1 ⟨x.1.symm, x.2.symm⟩), up_g, if_neg (by decide)]
      exact h83
    · rw [up_ne (fun x => n0.2.2 x.symm), up_ne (by decide)]
      exact g1
    · rw [up_g]
      by_cases e : c' = c ∧ i' = i
      · rw [if_pos e, e.1, e.2, hk, if_pos (by omega), g1]
      · have := other c' i' hm' e
        have n := n85 c' i' hm'
        rw [if_neg e, up_g, if_neg n.1, g2 c' i' hm']
        by_cases l : ipos c' i' < K
        · rw [if_pos l, if_pos (by omega)]
        · rw [if_neg l, if_neg (by omega)]
  · rw [if_neg z, if_neg z]
    have g := h1 z
    refine ⟨⟨?_, ?_⟩, fmS _ _ (f1.up (by decide) (by decide)), fun x => absurd x z, fun _ c' i' hm' => ?_⟩
    · rw [up_g, if_neg (show ¬ ((0 : Nat) = c ∧ (85 : Int) = i) from fun x => n0.1 ⟨x.1.symm, x.2.symm⟩), up_ne (by decide), up_g, if_pos (And.intro rfl rfl)]
    · rw [up_g, if_neg (show ¬ ((0 : Nat) = c ∧ (83 : Int) = i) from fun x => n0.2.1 ⟨x.1.symm, x.2.symm⟩), up_ne (by decide), up_g, if_neg (by decide)]
      exact h83
    · have n := n85 c' i' hm'
      have e56 : up (up (up t 0 85 (K + 1)) 56 K (t c i)) c i (t c i) 56 (ipos c' i') = if ipos c' i' = K then t c i else t 56 (ipos c' i') := by
        rw [up_ne (fun x => n0.2.2 x.symm), up_g]
        by_cases l : ipos c' i' = K
        · rw [if_pos (show (56 : Nat) = 56 ∧ ipos c' i' = K from ⟨rfl, l⟩), if_pos l]
        · rw [if_neg (show ¬ ((56 : Nat) = 56 ∧ ipos c' i' = K) from fun x => l x.2), if_neg l, up_ne (by decide)]
      rw [e56]
      by_cases e : c' = c ∧ i' = i
      · rw [e.1, e.2, hk, if_pos rfl, up_g, if_pos (And.intro rfl rfl)]
        exact ⟨(g c i hm).1, fun _ => (g c i hm).1⟩
      · have no := other c' i' hm' e
        rw [if_neg no, up_g, if_neg e, up_ne n.2, up_g, if_neg n.1]
        exact ⟨(g c' i' hm').1, fun l => (g c' i' hm').2 (by omega)⟩
theorem keep_a {β : Type} {p K : Int} {τ t : St} {c n : Nat} {i : Int} {g : St → Rs β} {P : β → St → Prop} (h : IJ p τ K t) (hm : ImC c i) (hk : ipos c i = K) (hr : 0 ≤ i ∧ i < n) (o : ∀ s, IJ p τ (K + 1) s → Ok (g s) P) : Ok (lod t c n i fun v => bnd (fX12_keeps v t) fun r s => sto s c n i r g) P := by
  have b := (qC_ipos hm).2
  rw [lod_eq hr, keeps_eq h.1.1 h.1.2 (by omega), bnd_some, sto_eq hr]
  exact o _ (h.step hm hk)
theorem keep_f {β : Type} {p K : Int} {τ t : St} {i : Int} {g : St → Rs β} {P : β → St → Prop} (h : IJ p τ K t) (hm : ImC 0 i) (hk : ipos 0 i = K) (o : ∀ s, IJ p τ (K + 1) s → Ok (g s) P) : Ok (fld t 0 i fun v => bnd (fX12_keeps v t) fun r s => put s 0 i r g) P := by
  have b := (qC_ipos hm).2
  rw [fld_eq, keeps_eq h.1.1 h.1.2 (by omega), bnd_some, put_eq]
  exact o _ (h.step hm hk)
theorem IJ.at {p K K' : Int} {τ t : St} (h : IJ p τ K t) (e : K = K') : IJ p τ K' t := e ▸ h
