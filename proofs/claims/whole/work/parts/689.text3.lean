/-! TEXT: any text -/
theorem s_text {σ τ : St} (h : Rl σ τ) {p1 : Int} : Sim (fX11_text p1 σ) (fX12_text p1 τ) := by
  unfold fX12_text
  refine sim_t0 h ?_
  clear h
  intro τ h
  rw [put_eq, put_eq, put_eq, put_eq, put_eq, isIn_eq, bnd_some]
  have f : Fm [] [14, 27, 28, 33, 34] τ (up (up (up (up (up τ 0 33 0) 0 34 (-1)) 0 14 0) 0 27 0) 0 28 0) := ((((Fm.rf.u0 (by decide)).u0 (by decide)).u0 (by decide)).u0 (by decide)).u0 (by decide)
  have p0 : (up (up (up (up (up τ 0 33 0) 0 34 (-1)) 0 14 0) 0 27 0) 0 28 0) 0 14 = 0 ∧ (up (up (up (up (up τ 0 33 0) 0 34 (-1)) 0 14 0) 0 27 0) 0 28 0) 0 27 = 0 ∧ (up (up (up (up (up τ 0 33 0) 0 34 (-1)) 0 14 0) 0 27 0) 0 28 0) 0 28 = 0 := ⟨rfl, rfl, rfl⟩
  have r33 : (up (up (up (up (up τ 0 33 0) 0 34 (-1)) 0 14 0) 0 27 0) 0 28 0) 0 33 = 0 := rfl
  have r34 : (up (up (up (up (up τ 0 33 0) 0 34 (-1)) 0 14 0) 0 27 0) 0 28 0) 0 34 = -1 := rfl
  generalize up (up (up (up (up τ 0 33 0) 0 34 (-1)) 0 14 0) 0 27 0) 0 28 0 = t at *
  by_cases hp : 0 ≤ p1 ∧ p1 ≤ 3
  · rw [if_pos hp, if_neg (by decide)]
    show Sim _ (mTail p1 t)
    obtain ⟨⟨q1, q2, q3⟩, q4⟩ := h.c_RP
    have c : CC (fun i => if i < τ 0 13 then τ 8 i else -1) (τ 0 13) := by
      refine ⟨⟨q2, q3⟩, fun i i0 i1 => ?_, fun i i0 => if_neg (by omega)⟩
      show 0 ≤ (if i < τ 0 13 then τ 8 i else -1) ∧ (if i < τ 0 13 then τ 8 i else -1) ≤ 255
      rw [if_pos i1]
      exact (q4 i i0 i1).2
    have cx : CX (fun i => if i < τ 0 13 then τ 8 i else -1) (τ 0 13) σ := by
      refine ⟨q1, fun i i0 i1 => ?_⟩
      show _ = if i < τ 0 13 then τ 8 i else -1
      rw [if_pos i1]
      exact (q4 i i0 i1).1
    have cm : CM (fun i => if i < τ 0 13 then τ 8 i else -1) (τ 0 13) τ := by
      refine ⟨rfl, fun i i0 i1 => ?_⟩
      show _ = if i < τ 0 13 then τ 8 i else -1
      rw [if_pos i1]
    have e : ME (fun i => if i < τ 0 13 then τ 8 i else -1) (τ 0 13) t := (show ME _ _ τ from ⟨cm, h.c_RS.2⟩).fm f (by decide)
    generalize (fun i => if i < τ 0 13 then τ 8 i else -1) = C at *
    obtain ⟨L, hL, _⟩ := TL.ex c _ 0 (Nat.le_refl _) c.1.1
    have tb : TB C (τ 0 13) L σ τ t := ⟨h, cx, c, hL, e, f, p0, r33, r34⟩
    obtain rfl | rfl | rfl | rfl : p1 = 0 ∨ p1 = 1 ∨ p1 = 2 ∨ p1 = 3 := by omega
    · exact s_text0 tb
    · exact s_text1 tb
    · exact s_text2 tb
    · exact s_text3 tb
  · rw [if_neg hp, if_pos rfl, bnd_some, put_eq, if_pos rfl]
    refine x_tail (Q := fun r s => r = 0 ∧ s = up (up σ 139 7 0) 139 8 (-1)) ?_ ?_
    · unfold fX5_read
      rw [put_eq, put_eq, x_within, bnd_some, if_neg hp, if_pos rfl]
      exact ok_ret ⟨rfl, rfl⟩
    · rintro r s ⟨rfl, rfl⟩
      obtain ⟨⟨q1, q2, q3⟩, q4⟩ := h.c_RP
      refine ⟨by show 0 ≤ σ 1 1; omega, Or.inl ⟨rfl, ok_ret ⟨rfl, ?_⟩⟩⟩
      have fx : Fr (1 :: CXR) σ (up (up (up σ 139 7 0) 139 8 (-1)) 1 1 0) := ((Fr.rf.up (by decide)).up (by decide)).up (by decide)
      have g : Fm [] [13] t (up t 0 13 0) := Fm.rf.u0 (by decide)
      exact t_bad h fx ((f.mono (by decide) (by decide)).tr (g.mono (by decide) (by decide))) ((LoA.fm f).tr (LoA.fm g)) ⟨h.c_RS.1.1, h.c_RS.1.2.1⟩ ⟨rfl, rfl⟩ ⟨r33.symm, r34.symm⟩
