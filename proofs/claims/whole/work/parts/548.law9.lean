/-! the law's code: told, once one has looked -/
theorem c_tells {σ τ : St} {W : Int → Int} {p c d pe po : Int} (h : RLaw σ 17 τ) (hp : 0 ≤ p ∧ p ≤ 2) (hcap : c = if 260 + p = 262 then 9 else 1000) (hd : d = if p = 0 then w32 (60 * W 0) else if p = 1 then w32 (100 * W 1) else 1) (hlook : Ok (fX3_lookAt pe po σ) fun _ s => Fr [150] σ s ∧ ∀ a, 0 ≤ a → a ≤ 9 → s 150 a = W a) : Ok (fX3_tells (260 + p) pe po σ) fun v σ' => Fr [150, 151] σ σ' ∧ lawV τ W p d c v := by
  unfold fX3_tells
  rw [ko_bnd]
  refine ok_mono hlook ?_
  rintro _ s ⟨fx, hW⟩
  have h' : RLaw s 17 τ := h.cg fx Fm.rf (C := [150]) (D := []) (J := []) (by decide)
  rw [ko_bnx]
  refine ok_mono (c_law h' hp hcap hW) ?_
  rintro (x | x) s2 hx
  · obtain ⟨f2, hl⟩ := hx
    have e150 : s2 150 = s 150 := f2 150 (by decide)
    have ff : Fr [150, 151] σ s2 := (fx.mono (by decide)).tr (f2.mono (by decide))
    have fin : ∀ v, v = d → Fr [150, 151] σ s2 ∧ lawV τ W p d c v := fun v hv => ⟨ff, -1, hl, Or.inl ⟨rfl, hv⟩⟩
    rw [ko_jl]
    by_cases c0 : p = 0
    · rw [ko_t (by omega), ko_lod, ko_some]
      exact ⟨by decide, fin _ (by rw [hd, if_pos c0, e150, hW 0 (by decide) (by decide)])⟩
    · rw [ko_f (by omega)]
      by_cases c1 : p = 1
      · rw [ko_t (by omega), ko_lod, ko_some]
        exact ⟨by decide, fin _ (by rw [hd, if_neg c0, if_pos c1, e150, hW 1 (by decide) (by decide)])⟩
      · rw [ko_f (by omega), ko_some]
        exact fin _ (by rw [hd, if_neg c0, if_neg c1])
  · obtain ⟨f2, hl⟩ := hx
    rw [ko_jr]
    exact ⟨(fx.mono (by decide)).tr (f2.mono (by decide)), hl d⟩
