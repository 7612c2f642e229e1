/-! IMAGE: the reference keeps, loop by loop -/
theorem im0 {i : Int} (h : i ∈ imJ) : ImC 0 i := by
  unfold imJ at h
  simp only [List.mem_cons, List.not_mem_nil, or_false] at h
  exact h
theorem img_many {p : Int} {τ t : St} (h : IJ p τ 161 t) : Ok (fX12_keepsMany t) fun _ t' => IJ p τ 176 t' := by
  unfold fX12_keepsMany
  refine keep_f h (im0 (by decide)) (by decide) fun t h => ?_
  refine keep_f h (im0 (by decide)) (by decide) fun t h => ?_
  refine keep_f h (im0 (by decide)) (by decide) fun t h => ?_
  refine keep_f h (im0 (by decide)) (by decide) fun t h => ?_
  refine keep_f h (im0 (by decide)) (by decide) fun t h => ?_
  refine keep_f h (im0 (by decide)) (by decide) fun t h => ?_
  refine keep_f h (im0 (by decide)) (by decide) fun t h => ?_
  refine keep_f h (im0 (by decide)) (by decide) fun t h => ?_
  refine keep_f h (im0 (by decide)) (by decide) fun t h => ?_
  refine keep_f h (im0 (by decide)) (by decide) fun t h => ?_
  rw [ko_bnd]
  refine for_ok 3 (fun k x t => x = (k : Int) ∧ IJ p τ (171 + 1 * (k : Int)) t) (by decide) ⟨rfl, h.at (by omega)⟩ ?_ ?_
  · rintro k x t hk ⟨rfl, h⟩
    have wk := (wq4 (i := k) (by omega)).1
    rw [ko_t (by omega)]
    refine keep_a h (show ImC 42 (k : Int) from (⟨by omega, by omega⟩ : 0 ≤ (k : Int) ∧ (k : Int) < 3)) (show 171 + (k : Int) = _ by omega) (by omega) fun t h => ?_
    rw [ko_some, ko_jl, wk.o]
    exact ⟨rfl, h.at (by omega)⟩
  rintro x t ⟨rfl, h⟩
  rw [ko_f (by decide), ko_some, ko_jr]
  have h := h.at (K' := 174) (by omega)
  refine keep_f h (im0 (by decide)) (by decide) fun t h => ?_
  refine keep_f h (im0 (by decide)) (by decide) fun t h => ?_
  rw [ko_some]
  exact h
theorem img_thought {p : Int} {τ t : St} (h : IJ p τ 176 t) : Ok (fX12_keepsThought t) fun _ t' => IJ p τ 316 t' := by
  unfold fX12_keepsThought
  rw [ko_bnd]
  refine for_ok 10 (fun k x t => x = (k : Int) ∧ IJ p τ (176 + 1 * (k : Int)) t) (by decide) ⟨rfl, h.at (by omega)⟩ ?_ ?_
  · rintro k x t hk ⟨rfl, h⟩
    have wk := (wq4 (i := k) (by omega)).1
    rw [ko_t (by omega)]
    refine keep_a h (show ImC 23 (k : Int) from (⟨by omega, by omega⟩ : 0 ≤ (k : Int) ∧ (k : Int) < 10)) (show 176 + (k : Int) = _ by omega) (by omega) fun t h => ?_
    rw [ko_some, ko_jl, wk.o]
    exact ⟨rfl, h.at (by omega)⟩
  rintro x t ⟨rfl, h⟩
  rw [ko_f (by decide), ko_some, ko_jr]
  have h := h.at (K' := 186) (by omega)
  rw [ko_bnd]
  refine for_ok 5 (fun k x t => x = (k : Int) ∧ IJ p τ (186 + 2 * (k : Int)) t) (by decide) ⟨rfl, h.at (by omega)⟩ ?_ ?_
  · rintro k x t hk ⟨rfl, h⟩
    have wk := (wq4 (i := k) (by omega)).1
    rw [ko_t (by omega)]
    refine keep_a h (show ImC 29 (k : Int) from (⟨by omega, by omega⟩ : 0 ≤ (k : Int) ∧ (k : Int) < 5)) (show 186 + 2 * (k : Int) = _ by omega) (by omega) fun t h => ?_
    refine keep_a h (show ImC 30 (k : Int) from (⟨by omega, by omega⟩ : 0 ≤ (k : Int) ∧ (k : Int) < 5)) (show 187 + 2 * (k : Int) = _ by omega) (by omega) fun t h => ?_
    rw [ko_some, ko_jl, wk.o]
    exact ⟨rfl, h.at (by omega)⟩
  rintro x t ⟨rfl, h⟩
  rw [ko_f (by decide), ko_some, ko_jr]
  have h := h.at (K' := 196) (by omega)
  rw [ko_bnd]
  refine for_ok 8 (fun k x t => x = (k : Int) ∧ IJ p τ (196 + 3 * (k : Int)) t) (by decide) ⟨rfl, h.at (by omega)⟩ ?_ ?_
  · rintro k x t hk ⟨rfl, h⟩
    have wk := (wq4 (i := k) (by omega)).1
    rw [ko_t (by omega)]
    refine keep_a h (show ImC 36 (k : Int) from (⟨by omega, by omega⟩ : 0 ≤ (k : Int) ∧ (k : Int) < 8)) (show 196 + 3 * (k : Int) = _ by omega) (by omega) fun t h => ?_
    refine keep_a h (show ImC 45 (k : Int) from (⟨by omega, by omega⟩ : 0 ≤ (k : Int) ∧ (k : Int) < 8)) (show 197 + 3 * (k : Int) = _ by omega) (by omega) fun t h => ?_
    refine keep_a h (show ImC 46 (k : Int) from (⟨by omega, by omega⟩ : 0 ≤ (k : Int) ∧ (k : Int) < 8)) (show 198 + 3 * (k : Int) = _ by omega) (by omega) fun t h => ?_
    rw [ko_some, ko_jl, wk.o]
    exact ⟨rfl, h.at (by omega)⟩
  rintro x t ⟨rfl, h⟩
  rw [ko_f (by decide), ko_some, ko_jr]
  have h := h.at (K' := 220) (by omega)
  rw [ko_bnd]
  refine for_ok 24 (fun k x t => x = (k : Int) ∧ IJ p τ (220 + 1 * (k : Int)) t) (by decide) ⟨rfl, h.at (by omega)⟩ ?_ ?_
  · rintro k x t hk ⟨rfl, h⟩
    have wk := (wq4 (i := k) (by omega)).1
    rw [ko_t (by omega)]
    refine keep_a h (show ImC 40 (k : Int) from (⟨by omega, by omega⟩ : 0 ≤ (k : Int) ∧ (k : Int) < 24)) (show 220 + (k : Int) = _ by omega) (by omega) fun t h => ?_
    rw [ko_some, ko_jl, wk.o]
    exact ⟨rfl, h.at (by omega)⟩
  rintro x t ⟨rfl, h⟩
  rw [ko_f (by decide), ko_some, ko_jr]
  have h := h.at (K' := 244) (by omega)
  rw [ko_bnd]
  refine for_ok 72 (fun k x t => x = (k : Int) ∧ IJ p τ (244 + 1 * (k : Int)) t) (by decide) ⟨rfl, h.at (by omega)⟩ ?_ ?_
  · rintro k x t hk ⟨rfl, h⟩
    have wk := (wq4 (i := k) (by omega)).1
    rw [ko_t (by omega)]
    refine keep_a h (show ImC 43 (k : Int) from (⟨by omega, by omega⟩ : 0 ≤ (k : Int) ∧ (k : Int) < 72)) (show 244 + (k : Int) = _ by omega) (by omega) fun t h => ?_
    rw [ko_some, ko_jl, wk.o]
    exact ⟨rfl, h.at (by omega)⟩
  rintro x t ⟨rfl, h⟩
  rw [ko_f (by decide), ko_some, ko_jr]
  have h := h.at (K' := 316) (by omega)
  rw [ko_some]
  exact h
theorem img_told {p : Int} {τ t : St} (h : IJ p τ 316 t) : Ok (fX12_keepsTold t) fun _ t' => IJ p τ 700 t' := by
  unfold fX12_keepsTold
  rw [ko_bnd]
  refine for_ok 12 (fun k x t => x = (k : Int) ∧ IJ p τ (316 + 6 * (k : Int)) t) (by decide) ⟨rfl, h.at (by omega)⟩ ?_ ?_
  · rintro k x t hk ⟨rfl, h⟩
    have wk := (wq4 (i := k) (by omega)).1
    rw [ko_t (by omega)]
    refine keep_a h (show ImC 4 (k : Int) from (⟨by omega, by omega⟩ : 0 ≤ (k : Int) ∧ (k : Int) < 12)) (show 316 + 6 * (k : Int) = _ by omega) (by omega) fun t h => ?_
    refine keep_a h (show ImC 31 (k : Int) from (⟨by omega, by omega⟩ : 0 ≤ (k : Int) ∧ (k : Int) < 12)) (show 317 + 6 * (k : Int) = _ by omega) (by omega) fun t h => ?_
    refine keep_a h (show ImC 32 (k : Int) from (⟨by omega, by omega⟩ : 0 ≤ (k : Int) ∧ (k : Int) < 12)) (show 318 + 6 * (k : Int) = _ by omega) (by omega) fun t h => ?_
    refine keep_a h (show ImC 33 (k : Int) from (⟨by omega, by omega⟩ : 0 ≤ (k : Int) ∧ (k : Int) < 12)) (show 319 + 6 * (k : Int) = _ by omega) (by omega) fun t h => ?_
    refine keep_a h (show ImC 34 (k : Int) from (⟨by omega, by omega⟩ : 0 ≤ (k : Int) ∧ (k : Int) < 12)) (show 320 + 6 * (k : Int) = _ by omega) (by omega) fun t h => ?_
    refine keep_a h (show ImC 39 (k : Int) from (⟨by omega, by omega⟩ : 0 ≤ (k : Int) ∧ (k : Int) < 12)) (show 321 + 6 * (k : Int) = _ by omega) (by omega) fun t h => ?_
    rw [ko_some, ko_jl, wk.o]
    exact ⟨rfl, h.at (by omega)⟩
  rintro x t ⟨rfl, h⟩
  rw [ko_f (by decide), ko_some, ko_jr]
  have h := h.at (K' := 388) (by omega)
  rw [ko_bnd]
  refine for_ok 20 (fun k x t => x = (k : Int) ∧ IJ p τ (388 + 2 * (k : Int)) t) (by decide) ⟨rfl, h.at (by omega)⟩ ?_ ?_
  · rintro k x t hk ⟨rfl, h⟩
    have wk := (wq4 (i := k) (by omega)).1
    rw [ko_t (by omega)]
    refine keep_a h (show ImC 5 (k : Int) from (⟨by omega, by omega⟩ : 0 ≤ (k : Int) ∧ (k : Int) < 20)) (show 388 + 2 * (k : Int) = _ by omega) (by omega) fun t h => ?_
    refine keep_a h (show ImC 6 (k : Int) from (⟨by omega, by omega⟩ : 0 ≤ (k : Int) ∧ (k : Int) < 20)) (show 389 + 2 * (k : Int) = _ by omega) (by omega) fun t h => ?_
    rw [ko_some, ko_jl, wk.o]
    exact ⟨rfl, h.at (by omega)⟩
  rintro x t ⟨rfl, h⟩
  rw [ko_f (by decide), ko_some, ko_jr]
  have h := h.at (K' := 428) (by omega)
  rw [ko_bnd]
  refine for_ok 144 (fun k x t => x = (k : Int) ∧ IJ p τ (428 + 1 * (k : Int)) t) (by decide) ⟨rfl, h.at (by omega)⟩ ?_ ?_
  · rintro k x t hk ⟨rfl, h⟩
    have wk := (wq4 (i := k) (by omega)).1
    rw [ko_t (by omega)]
    refine keep_a h (show ImC 20 (k : Int) from (⟨by omega, by omega⟩ : 0 ≤ (k : Int) ∧ (k : Int) < 144)) (show 428 + (k : Int) = _ by omega) (by omega) fun t h => ?_
    rw [ko_some, ko_jl, wk.o]
    exact ⟨rfl, h.at (by omega)⟩
  rintro x t ⟨rfl, h⟩
  rw [ko_f (by decide), ko_some, ko_jr]
  have h := h.at (K' := 572) (by omega)
  rw [ko_bnd]
  refine for_ok 64 (fun k x t => x = (k : Int) ∧ IJ p τ (572 + 1 * (k : Int)) t) (by decide) ⟨rfl, h.at (by omega)⟩ ?_ ?_
  · rintro k x t hk ⟨rfl, h⟩
    have wk := (wq4 (i := k) (by omega)).1
    rw [ko_t (by omega)]
    refine keep_a h (show ImC 18 (k : Int) from (⟨by omega, by omega⟩ : 0 ≤ (k : Int) ∧ (k : Int) < 64)) (show 572 + (k : Int) = _ by omega) (by omega) fun t h => ?_
    rw [ko_some, ko_jl, wk.o]
    exact ⟨rfl, h.at (by omega)⟩
  rintro x t ⟨rfl, h⟩
  rw [ko_f (by decide), ko_some, ko_jr]
  have h := h.at (K' := 636) (by omega)
  rw [ko_bnd]
  refine for_ok 64 (fun k x t => x = (k : Int) ∧ IJ p τ (636 + 1 * (k : Int)) t) (by decide) ⟨rfl, h.at (by omega)⟩ ?_ ?_
  · rintro k x t hk ⟨rfl, h⟩
    have wk := (wq4 (i := k) (by omega)).1
    rw [ko_t (by omega)]
    refine keep_a h (show ImC 19 (k : Int) from (⟨by omega, by omega⟩ : 0 ≤ (k : Int) ∧ (k : Int) < 64)) (show 636 + (k : Int) = _ by omega) (by omega) fun t h => ?_
    rw [ko_some, ko_jl, wk.o]
    exact ⟨rfl, h.at (by omega)⟩
  rintro x t ⟨rfl, h⟩
  rw [ko_f (by decide), ko_some, ko_jr]
  have h := h.at (K' := 700) (by omega)
  rw [ko_some]
  exact h
theorem img_law {p : Int} {τ t : St} (h : IJ p τ 1450 t) : Ok (fX12_keepsLaw t) fun _ t' => IJ p τ 2315 t' := by
  unfold fX12_keepsLaw
  refine keep_a h (show ImC 10 0 from rfl) (by decide) (by decide) fun t h => ?_
  rw [ko_bnd]
  refine for_ok 16 (fun k x t => x = (k : Int) ∧ IJ p τ (1451 + 4 * (k : Int)) t) (by decide) ⟨rfl, h.at (by omega)⟩ ?_ ?_
  · rintro k x t hk ⟨rfl, h⟩
    have wk := (wq4 (i := k) (by omega)).1
    rw [ko_t (by omega)]
    refine keep_a h (show ImC 11 (k : Int) from (⟨by omega, by omega⟩ : 0 ≤ (k : Int) ∧ (k : Int) < 16)) (show 1451 + 4 * (k : Int) = _ by omega) (by omega) fun t h => ?_
    refine keep_a h (show ImC 12 (k : Int) from (⟨by omega, by omega⟩ : 0 ≤ (k : Int) ∧ (k : Int) < 16)) (show 1452 + 4 * (k : Int) = _ by omega) (by omega) fun t h => ?_
    refine keep_a h (show ImC 13 (k : Int) from (⟨by omega, by omega⟩ : 0 ≤ (k : Int) ∧ (k : Int) < 16)) (show 1453 + 4 * (k : Int) = _ by omega) (by omega) fun t h => ?_
    refine keep_a h (show ImC 14 (k : Int) from (⟨by omega, by omega⟩ : 0 ≤ (k : Int) ∧ (k : Int) < 16)) (show 1454 + 4 * (k : Int) = _ by omega) (by omega) fun t h => ?_
    rw [ko_some, ko_jl, wk.o]
    exact ⟨rfl, h.at (by omega)⟩
  rintro x t ⟨rfl, h⟩
  rw [ko_f (by decide), ko_some, ko_jr]
  have h := h.at (K' := 1515) (by omega)
  rw [ko_bnd]
  refine for_ok 400 (fun k x t => x = (k : Int) ∧ IJ p τ (1515 + 2 * (k : Int)) t) (by decide) ⟨rfl, h.at (by omega)⟩ ?_ ?_
  · rintro k x t hk ⟨rfl, h⟩
    have wk := (wq4 (i := k) (by omega)).1
    rw [ko_t (by omega)]
    refine keep_a h (show ImC 15 (k : Int) from (⟨by omega, by omega⟩ : 0 ≤ (k : Int) ∧ (k : Int) < 400)) (show 1515 + 2 * (k : Int) = _ by omega) (by omega) fun t h => ?_
    refine keep_a h (show ImC 16 (k : Int) from (⟨by omega, by omega⟩ : 0 ≤ (k : Int) ∧ (k : Int) < 400)) (show 1516 + 2 * (k : Int) = _ by omega) (by omega) fun t h => ?_
    rw [ko_some, ko_jl, wk.o]
    exact ⟨rfl, h.at (by omega)⟩
  rintro x t ⟨rfl, h⟩
  rw [ko_f (by decide), ko_some, ko_jr]
  have h := h.at (K' := 2315) (by omega)
  rw [ko_some]
  exact h
def imH (τ : St) (p : Int) : St := up (up (up τ 0 83 p) 0 84 1) 0 85 0
theorem m_image {p : Int} {τ : St} (hp : p = 0 ∨ p = 1) (h84 : p = 0 → τ 0 84 ≠ 0) : Ok (fX12_image p τ) fun r t' => r = 1 ∧ ∃ t, IJ p (imH (up τ 0 0 0) p) 2315 t ∧ t' = if p = 0 then up t 0 3 0 else t := by
  unfold fX12_image
  have hd : (if p = 0 then fld (up τ 0 0 0) 0 84 fun v2 => if v2 = 0 then some (.inr 0, up τ 0 0 0) else some (.inl (), up τ 0 0 0) else some (.inl (), up τ 0 0 0) : Rs (Unit ⊕ Int)) = some (.inl (), up τ 0 0 0) := by
    by_cases z : p = 0
    · rw [if_pos z, fld_eq, if_neg (show ¬ up τ 0 0 0 0 84 = 0 from h84 z)]
    · rw [if_neg z]
  rw [put_eq, hd, bnx_inl, put_eq, put_eq, put_eq]
  show Ok (bnd (itr FUEL _ 0 (imH (up τ 0 0 0) p)) _) _
  generalize up τ 0 0 0 = τ0
  have e85 : imH τ0 p 0 85 = 0 := by unfold imH; rw [up_g, if_pos (And.intro rfl rfl)]
  have e83 : imH τ0 p 0 83 = p := by unfold imH; rw [up_g, if_neg (by decide), up_g, if_neg (by decide), up_g, if_pos (And.intro rfl rfl)]
  have h : IJ p (imH τ0 p) 0 (imH τ0 p) := ⟨⟨e85, e83⟩, Fm.rf, fun _ => ⟨rfl, fun c i hm => by rw [if_neg (by have := (qC_ipos hm).2; omega)]⟩, fun _ c i hm => ⟨rfl, fun l => by have := (qC_ipos hm).2; omega⟩⟩
  generalize imH τ0 p = τ at *
  rw [ko_bnd]
  refine for_ok 161 (fun k x t => x = (k : Int) ∧ IJ p τ (0 + 1 * (k : Int)) t) (by decide) ⟨rfl, h.at (by omega)⟩ ?_ ?_
  · rintro k x t hk ⟨rfl, h⟩
    have wk := (wq4 (i := k) (by omega)).1
    rw [ko_t (by omega)]
    refine keep_a h (show ImC 1 (k : Int) from (⟨by omega, by omega⟩ : 0 ≤ (k : Int) ∧ (k : Int) < 161)) (show (k : Int) = _ by omega) (by omega) fun t h => ?_
    rw [ko_some, ko_jl, wk.o]
    exact ⟨rfl, h.at (by omega)⟩
  rintro x t ⟨rfl, h⟩
  rw [ko_f (by decide), ko_some, ko_jr]
  have h := h.at (K' := 161) (by omega)
  rw [ko_bnd]
  refine ok_mono (img_many h) ?_
  rintro _ t h
  rw [ko_bnd]
  refine ok_mono (img_thought h) ?_
  rintro _ t h
  rw [ko_bnd]
  refine ok_mono (img_told h) ?_
  rintro _ t h
  rw [ko_bnd]
  refine for_ok 750 (fun k x t => x = (k : Int) ∧ IJ p τ (700 + 1 * (k : Int)) t) (by decide) ⟨rfl, h.at (by omega)⟩ ?_ ?_
  · rintro k x t hk ⟨rfl, h⟩
    have wk := (wq4 (i := k) (by omega)).1
    rw [ko_t (by omega)]
    refine keep_a h (show ImC 7 (k : Int) from (⟨by omega, by omega⟩ : 0 ≤ (k : Int) ∧ (k : Int) < 750)) (show 700 + (k : Int) = _ by omega) (by omega) fun t h => ?_
    rw [ko_some, ko_jl, wk.o]
    exact ⟨rfl, h.at (by omega)⟩
  rintro x t ⟨rfl, h⟩
  rw [ko_f (by decide), ko_some, ko_jr]
  have h := h.at (K' := 1450) (by omega)
  rw [ko_bnd]
  refine ok_mono (img_law h) ?_
  rintro _ t h
  rcases hp with rfl | rfl
  · rw [ko_t rfl, ko_put, ko_some]
    exact ⟨rfl, t, h, by rw [if_pos rfl]⟩
  · rw [ko_f (by decide), ko_some]
    exact ⟨rfl, t, h, by rw [if_neg (by decide)]⟩
