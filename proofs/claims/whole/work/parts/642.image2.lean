/-! IMAGE: the class's rows copied -/
/-- row ro has become row r2 -/
def TCr (σ σ' : St) (ro r2 : Nat) : Prop := σ' ro 0 = σ r2 0 ∧ σ' ro 2 = σ r2 2 ∧ ∀ i, 0 ≤ i → i < σ r2 2 * σ r2 0 → σ' (ro + 1) i = σ (r2 + 1) i
theorem row_copy {ro r2 rn : Nat} {σ : St} {w : Int} (hne : ro ≠ r2 ∧ ro + 1 ≠ r2 ∧ ro ≠ r2 + 1) (h0 : σ ro 0 = w) (h2 : σ r2 0 = w) (hl : 0 ≤ σ r2 2 * w ∧ σ r2 2 * w ≤ rn) (hn : rn ≤ 60000) : ∃ σ', fX6_copyFrom ro (ro + 1) rn r2 (r2 + 1) rn σ = some (0, σ') ∧ (∀ k, k ≠ ro → k ≠ ro + 1 → σ' k = σ k) ∧ TCr σ σ' ro r2 := by
  have e1 : up σ ro 2 (σ r2 2) ro 2 = σ r2 2 := by rw [up_at, if_pos rfl]
  have e0 : up σ ro 2 (σ r2 2) ro 0 = w := by rw [up_at, if_neg (by decide)]; exact h0
  have ew : w32 (σ r2 2 * w) = σ r2 2 * w := w32_sm (by omega)
  refine ⟨cp (up σ ro 2 (σ r2 2)) (r2 + 1) 0 (ro + 1) 0 (σ r2 2 * w), ?_, fun k k0 k1 => ?_, ?_, ?_, fun i i0 i1 => ?_⟩
  · unfold fX6_copyFrom
    rw [fld_eq, fld_eq, h0, h2, if_pos rfl, if_pos rfl, fld_eq, put_eq, fld_eq, fld_eq, e1, e0, ew, cpy_eq (by omega)]
  · funext i
    show (if k = ro + 1 ∧ _ then _ else up σ ro 2 (σ r2 2) k i) = σ k i
    rw [if_neg (show ¬ (k = ro + 1 ∧ _) from fun x => k1 x.1), up_ne k0]
  · show (if ro = ro + 1 ∧ _ then _ else up σ ro 2 (σ r2 2) ro 0) = σ r2 0
    rw [if_neg (show ¬ (ro = ro + 1 ∧ _) from fun x => by have := x.1; omega), e0, h2]
  · show (if ro = ro + 1 ∧ _ then _ else up σ ro 2 (σ r2 2) ro 2) = σ r2 2
    rw [if_neg (show ¬ (ro = ro + 1 ∧ _) from fun x => by have := x.1; omega), e1]
  · rw [h2] at i1
    show (if ro + 1 = ro + 1 ∧ 0 ≤ i ∧ i < 0 + σ r2 2 * w then up σ ro 2 (σ r2 2) (r2 + 1) (0 + (i - 0)) else up σ ro 2 (σ r2 2) (ro + 1) i) = σ (r2 + 1) i
    rw [if_pos ⟨rfl, i0, by omega⟩, up_ne (fun e => hne.2.2 e.symm), show (0 : Int) + (i - 0) = i by omega]
theorem told_take {σ : St} (a1 : σ 200 0 = 4) (b1 : σ 18 0 = 4) (l1 : 0 ≤ σ 18 2 * 4 ∧ σ 18 2 * 4 ≤ 64) (a3 : σ 202 0 = 1) (b3 : σ 20 0 = 1) (l3 : 0 ≤ σ 20 2 * 1 ∧ σ 20 2 * 1 ≤ 400) (a5 : σ 204 0 = 4) (b5 : σ 22 0 = 4) (l5 : 0 ≤ σ 22 2 * 4 ∧ σ 22 2 * 4 ≤ 64) (a7 : σ 206 0 = 4) (b7 : σ 24 0 = 4) (l7 : 0 ≤ σ 24 2 * 4 ∧ σ 24 2 * 4 ≤ 64) (a9 : σ 208 0 = 4) (b9 : σ 26 0 = 4) (l9 : 0 ≤ σ 26 2 * 4 ∧ σ 26 2 * 4 ≤ 64) (a11 : σ 210 0 = 5) (b11 : σ 28 0 = 5) (l11 : 0 ≤ σ 28 2 * 5 ∧ σ 28 2 * 5 ≤ 50) (a13 : σ 212 0 = 2) (b13 : σ 30 0 = 2) (l13 : 0 ≤ σ 30 2 * 2 ∧ σ 30 2 * 2 ≤ 10) (a15 : σ 214 0 = 4) (b15 : σ 32 0 = 4) (l15 : 0 ≤ σ 32 2 * 4 ∧ σ 32 2 * 4 ≤ 48) (a17 : σ 216 0 = 1) (b17 : σ 34 0 = 1) (l17 : 0 ≤ σ 34 2 * 1 ∧ σ 34 2 * 1 ≤ 8) (a19 : σ 218 0 = 1) (b19 : σ 36 0 = 1) (l19 : 0 ≤ σ 36 2 * 1 ∧ σ 36 2 * 1 ≤ 12) (a21 : σ 220 0 = 1) (b21 : σ 38 0 = 1) (l21 : 0 ≤ σ 38 2 * 1 ∧ σ 38 2 * 1 ≤ 24) (a23 : σ 222 0 = 1) (b23 : σ 40 0 = 1) (l23 : 0 ≤ σ 40 2 * 1 ∧ σ 40 2 * 1 ≤ 12) (a25 : σ 224 0 = 1) (b25 : σ 42 0 = 1) (l25 : 0 ≤ σ 42 2 * 1 ∧ σ 42 2 * 1 ≤ 12) (a27 : σ 226 0 = 1) (b27 : σ 44 0 = 1) (l27 : 0 ≤ σ 44 2 * 1 ∧ σ 44 2 * 1 ≤ 24) (a29 : σ 228 0 = 1) (b29 : σ 46 0 = 1) (l29 : 0 ≤ σ 46 2 * 1 ∧ σ 46 2 * 1 ≤ 8) (a31 : σ 230 0 = 2) (b31 : σ 48 0 = 2) (l31 : 0 ≤ σ 48 2 * 2 ∧ σ 48 2 * 2 ≤ 16) : ∃ σ', fX9_copyFrom_199_17 σ = some (0, σ') ∧ (∀ k, ¬ (200 ≤ k ∧ k ≤ 231) → σ' k = σ k) ∧ TCr σ σ' 200 18 ∧ TCr σ σ' 202 20 ∧ TCr σ σ' 204 22 ∧ TCr σ σ' 206 24 ∧ TCr σ σ' 208 26 ∧ TCr σ σ' 210 28 ∧ TCr σ σ' 212 30 ∧ TCr σ σ' 214 32 ∧ TCr σ σ' 216 34 ∧ TCr σ σ' 218 36 ∧ TCr σ σ' 220 38 ∧ TCr σ σ' 222 40 ∧ TCr σ σ' 224 42 ∧ TCr σ σ' 226 44 ∧ TCr σ σ' 228 46 ∧ TCr σ σ' 230 48 := by
  unfold fX9_copyFrom_199_17
  obtain ⟨s1, e1, f1, c1⟩ := row_copy (ro := 200) (r2 := 18) (rn := 64) (σ := σ) (w := 4) (by decide) (a1) (b1) (l1) (by decide)
  rw [show fX6_copyFrom 200 201 64 18 19 64 σ = some (0, s1) from e1, bnd_some]
  obtain ⟨s2, e2, f2, c2⟩ := row_copy (ro := 202) (r2 := 20) (rn := 400) (σ := s1) (w := 1) (by decide) (by rw [f1 202 (by decide) (by decide)]; exact a3) (by rw [f1 20 (by decide) (by decide)]; exact b3) (by rw [f1 20 (by decide) (by decide)]; exact l3) (by decide)
  rw [show fX6_copyFrom 202 203 400 20 21 400 s1 = some (0, s2) from e2, bnd_some]
  obtain ⟨s3, e3, f3, c3⟩ := row_copy (ro := 204) (r2 := 22) (rn := 64) (σ := s2) (w := 4) (by decide) (by rw [f2 204 (by decide) (by decide), f1 204 (by decide) (by decide)]; exact a5) (by rw [f2 22 (by decide) (by decide), f1 22 (by decide) (by decide)]; exact b5) (by rw [f2 22 (by decide) (by decide), f1 22 (by decide) (by decide)]; exact l5) (by decide)
  rw [show fX6_copyFrom 204 205 64 22 23 64 s2 = some (0, s3) from e3, bnd_some]
  obtain ⟨s4, e4, f4, c4⟩ := row_copy (ro := 206) (r2 := 24) (rn := 64) (σ := s3) (w := 4) (by decide) (by rw [f3 206 (by decide) (by decide), f2 206 (by decide) (by decide), f1 206 (by decide) (by decide)]; exact a7) (by rw [f3 24 (by decide) (by decide), f2 24 (by decide) (by decide), f1 24 (by decide) (by decide)]; exact b7) (by rw [f3 24 (by decide) (by decide), f2 24 (by decide) (by decide), f1 24 (by decide) (by decide)]; exact l7) (by decide)
  rw [show fX6_copyFrom 206 207 64 24 25 64 s3 = some (0, s4) from e4, bnd_some]
  obtain ⟨s5, e5, f5, c5⟩ := row_copy (ro := 208) (r2 := 26) (rn := 64) (σ := s4) (w := 4) (by decide) (by rw [f4 208 (by decide) (by decide), f3 208 (by decide) (by decide), f2 208 (by decide) (by decide), f1 208 (by decide) (by decide)]; exact a9) (by rw [f4 26 (by decide) (by decide), f3 26 (by decide) (by decide), f2 26 (by decide) (by decide), f1 26 (by decide) (by decide)]; exact b9) (by rw [f4 26 (by decide) (by decide), f3 26 (by decide) (by decide), f2 26 (by decide) (by decide), f1 26 (by decide) (by decide)]; exact l9) (by decide)
  rw [show fX6_copyFrom 208 209 64 26 27 64 s4 = some (0, s5) from e5, bnd_some]
  obtain ⟨s6, e6, f6, c6⟩ := row_copy (ro := 210) (r2 := 28) (rn := 50) (σ := s5) (w := 5) (by decide) (by rw [f5 210 (by decide) (by decide), f4 210 (by decide) (by decide), f3 210 (by decide) (by decide), f2 210 (by decide) (by decide), f1 210 (by decide) (by decide)]; exact a11) (by rw [f5 28 (by decide) (by decide), f4 28 (by decide) (by decide), f3 28 (by decide) (by decide), f2 28 (by decide) (by decide), f1 28 (by decide) (by decide)]; exact b11) (by rw [f5 28 (by decide) (by decide), f4 28 (by decide) (by decide), f3 28 (by decide) (by decide), f2 28 (by decide) (by decide), f1 28 (by decide) (by decide)]; exact l11) (by decide)
  rw [show fX6_copyFrom 210 211 50 28 29 50 s5 = some (0, s6) from e6, bnd_some]
  obtain ⟨s7, e7, f7, c7⟩ := row_copy (ro := 212) (r2 := 30) (rn := 10) (σ := s6) (w := 2) (by decide) (by rw [f6 212 (by decide) (by decide), f5 212 (by decide) (by decide), f4 212 (by decide) (by decide), f3 212 (by decide) (by decide), f2 212 (by decide) (by decide), f1 212 (by decide) (by decide)]; exact a13) (by rw [f6 30 (by decide) (by decide), f5 30 (by decide) (by decide), f4 30 (by decide) (by decide), f3 30 (by decide) (by decide), f2 30 (by decide) (by decide), f1 30 (by decide) (by decide)]; exact b13) (by rw [f6 30 (by decide) (by decide), f5 30 (by decide) (by decide), f4 30 (by decide) (by decide), f3 30 (by decide) (by decide), f2 30 (by decide) (by decide), f1 30 (by decide) (by decide)]; exact l13) (by decide)
  rw [show fX6_copyFrom 212 213 10 30 31 10 s6 = some (0, s7) from e7, bnd_some]
  obtain ⟨s8, e8, f8, c8⟩ := row_copy (ro := 214) (r2 := 32) (rn := 48) (σ := s7) (w := 4) (by decide) (by rw [f7 214 (by decide) (by decide), f6 214 (by decide) (by decide), f5 214 (by decide) (by decide), f4 214 (by decide) (by decide), f3 214 (by decide) (by decide), f2 214 (by decide) (by decide), f1 214 (by decide) (by decide)]; exact a15) (by rw [f7 32 (by decide) (by decide), f6 32 (by decide) (by decide), f5 32 (by decide) (by decide), f4 32 (by decide) (by decide), f3 32 (by decide) (by decide), f2 32 (by decide) (by decide), f1 32 (by decide) (by decide)]; exact b15) (by rw [f7 32 (by decide) (by decide), f6 32 (by decide) (by decide), f5 32 (by decide) (by decide), f4 32 (by decide) (by decide), f3 32 (by decide) (by decide), f2 32 (by decide) (by decide), f1 32 (by decide) (by decide)]; exact l15) (by decide)
  rw [show fX6_copyFrom 214 215 48 32 33 48 s7 = some (0, s8) from e8, bnd_some]
  obtain ⟨s9, e9, f9, c9⟩ := row_copy (ro := 216) (r2 := 34) (rn := 8) (σ := s8) (w := 1) (by decide) (by rw [f8 216 (by decide) (by decide), f7 216 (by decide) (by decide), f6 216 (by decide) (by decide), f5 216 (by decide) (by decide), f4 216 (by decide) (by decide), f3 216 (by decide) (by decide), f2 216 (by decide) (by decide), f1 216 (by decide) (by decide)]; exact a17) (by rw [f8 34 (by decide) (by decide), f7 34 (by decide) (by decide), f6 34 (by decide) (by decide), f5 34 (by decide) (by decide), f4 34 (by decide) (by decide), f3 34 (by decide) (by decide), f2 34 (by decide) (by decide), f1 34 (by decide) (by decide)]; exact b17) (by rw [f8 34 (by decide) (by decide), f7 34 (by decide) (by decide), f6 34 (by decide) (by decide), f5 34 (by decide) (by decide), f4 34 (by decide) (by decide), f3 34 (by decide) (by decide), f2 34 (by decide) (by decide), f1 34 (by decide) (by decide)]; exact l17) (by decide)
  rw [show fX6_copyFrom 216 217 8 34 35 8 s8 = some (0, s9) from e9, bnd_some]
  obtain ⟨s10, e10, f10, c10⟩ := row_copy (ro := 218) (r2 := 36) (rn := 12) (σ := s9) (w := 1) (by decide) (by rw [f9 218 (by decide) (by decide), f8 218 (by decide) (by decide), f7 218 (by decide) (by decide), f6 218 (by decide) (by decide), f5 218 (by decide) (by decide), f4 218 (by decide) (by decide), f3 218 (by decide) (by decide), f2 218 (by decide) (by decide), f1 218 (by decide) (by decide)]; exact a19) (by rw [f9 36 (by decide) (by decide), f8 36 (by decide) (by decide), f7 36 (by decide) (by decide), f6 36 (by decide) (by decide), f5 36 (by decide) (by decide), f4 36 (by decide) (by decide), f3 36 (by decide) (by decide), f2 36 (by decide) (by decide), f1 36 (by decide) (by decide)]; exact b19) (by rw [f9 36 (by decide) (by decide), f8 36 (by decide) (by decide), f7 36 (by decide) (by decide), f6 36 (by decide) (by decide), f5 36 (by decide) (by decide), f4 36 (by decide) (by decide), f3 36 (by decide) (by decide), f2 36 (by decide) (by decide), f1 36 (by decide) (by decide)]; exact l19) (by decide)
  rw [show fX6_copyFrom 218 219 12 36 37 12 s9 = some (0, s10) from e10, bnd_some]
  obtain ⟨s11, e11, f11, c11⟩ := row_copy (ro := 220) (r2 := 38) (rn := 24) (σ := s10) (w := 1) (by decide) (by rw [f10 220 (by decide) (by decide), f9 220 (by decide) (by decide), f8 220 (by decide) (by decide), f7 220 (by decide) (by decide), f6 220 (by decide) (by decide), f5 220 (by decide) (by decide), f4 220 (by decide) (by decide), f3 220 (by decide) (by decide), f2 220 (by decide) (by decide), f1 220 (by decide) (by decide)]; exact a21) (by rw [f10 38 (by decide) (by decide), f9 38 (by decide) (by decide), f8 38 (by decide) (by decide), f7 38 (by decide) (by decide), f6 38 (by decide) (by decide), f5 38 (by decide) (by decide), f4 38 (by decide) (by decide), f3 38 (by decide) (by decide), f2 38 (by decide) (by decide), f1 38 (by decide) (by decide)]; exact b21) (by rw [f10 38 (by decide) (by decide), f9 38 (by decide) (by decide), f8 38 (by decide) (by decide), f7 38 (by decide) (by decide), f6 38 (by decide) (by decide), f5 38 (by decide) (by decide), f4 38 (by decide) (by decide), f3 38 (by decide) (by decide), f2 38 (by decide) (by decide), f1 38 (by decide) (by decide)]; exact l21) (by decide)
  rw [show fX6_copyFrom 220 221 24 38 39 24 s10 = some (0, s11) from e11, bnd_some]
  obtain ⟨s12, e12, f12, c12⟩ := row_copy (ro := 222) (r2 := 40) (rn := 12) (σ := s11) (w := 1) (by decide) (by rw [f11 222 (by decide) (by decide), f10 222 (by decide) (by decide), f9 222 (by decide) (by decide), f8 222 (by decide) (by decide), f7 222 (by decide) (by decide), f6 222 (by decide) (by decide), f5 222 (by decide) (by decide), f4 222 (by decide) (by decide), f3 222 (by decide) (by decide), f2 222 (by decide) (by decide), f1 222 (by decide) (by decide)]; exact a23) (by rw [f11 40 (by decide) (by decide), f10 40 (by decide) (by decide), f9 40 (by decide) (by decide), f8 40 (by decide) (by decide), f7 40 (by decide) (by decide), f6 40 (by decide) (by decide), f5 40 (by decide) (by decide), f4 40 (by decide) (by decide), f3 40 (by decide) (by decide), f2 40 (by decide) (by decide), f1 40 (by decide) (by decide)]; exact b23) (by rw [f11 40 (by decide) (by decide), f10 40 (by decide) (by decide), f9 40 (by decide) (by decide), f8 40 (by decide) (by decide), f7 40 (by decide) (by decide), f6 40 (by decide) (by decide), f5 40 (by decide) (by decide), f4 40 (by decide) (by decide), f3 40 (by decide) (by decide), f2 40 (by decide) (by decide), f1 40 (by decide) (by decide)]; exact l23) (by decide)
  rw [show fX6_copyFrom 222 223 12 40 41 12 s11 = some (0, s12) from e12, bnd_some]
  obtain ⟨s13, e13, f13, c13⟩ := row_copy (ro := 224) (r2 := 42) (rn := 12) (σ := s12) (w := 1) (by decide) (by rw [f12 224 (by decide) (by decide), f11 224 (by decide) (by decide), f10 224 (by decide) (by decide), f9 224 (by decide) (by decide), f8 224 (by decide) (by decide), f7 224 (by decide) (by decide), f6 224 (by decide) (by decide), f5 224 (by decide) (by decide), f4 224 (by decide) (by decide), f3 224 (by decide) (by decide), f2 224 (by decide) (by decide), f1 224 (by decide) (by decide)]; exact a25) (by rw [f12 42 (by decide) (by decide), f11 42 (by decide) (by decide), f10 42 (by decide) (by decide), f9 42 (by decide) (by decide), f8 42 (by decide) (by decide), f7 42 (by decide) (by decide), f6 42 (by decide) (by decide), f5 42 (by decide) (by decide), f4 42 (by decide) (by decide), f3 42 (by decide) (by decide), f2 42 (by decide) (by decide), f1 42 (by decide) (by decide)]; exact b25) (by rw [f12 42 (by decide) (by decide), f11 42 (by decide) (by decide), f10 42 (by decide) (by decide), f9 42 (by decide) (by decide), f8 42 (by decide) (by decide), f7 42 (by decide) (by decide), f6 42 (by decide) (by decide), f5 42 (by decide) (by decide), f4 42 (by decide) (by decide), f3 42 (by decide) (by decide), f2 42 (by decide) (by decide), f1 42 (by decide) (by decide)]; exact l25) (by decide)
  rw [show fX6_copyFrom 224 225 12 42 43 12 s12 = some (0, s13) from e13, bnd_some]
  obtain ⟨s14, e14, f14, c14⟩ := row_copy (ro := 226) (r2 := 44) (rn := 24) (σ := s13) (w := 1) (by decide) (by rw [f13 226 (by decide) (by decide), f12 226 (by decide) (by decide), f11 226 (by decide) (by decide), f10 226 (by decide) (by decide), f9 226 (by decide) (by decide), f8 226 (by decide) (by decide), f7 226 (by decide) (by decide), f6 226 (by decide) (by decide), f5 226 (by decide) (by decide), f4 226 (by decide) (by decide), f3 226 (by decide) (by decide), f2 226 (by decide) (by decide), f1 226 (by decide) (by decide)]; exact a27) (by rw [f13 44 (by decide) (by decide), f12 44 (by decide) (by decide), f11 44 (by decide) (by decide), f10 44 (by decide) (by decide), f9 44 (by decide) (by decide), f8 44 (by decide) (by decide), f7 44 (by decide) (by decide), f6 44 (by decide) (by decide), f5 44 (by decide) (by decide), f4 44 (by decide) (by decide), f3 44 (by decide) (by decide), f2 44 (by decide) (by decide), f1 44 (by decide) (by decide)]; exact b27) (by rw [f13 44 (by decide) (by decide), f12 44 (by decide) (by decide), f11 44 (by decide) (by decide), f10 44 (by decide) (by decide), f9 44 (by decide) (by decide), f8 44 (by decide) (by decide), f7 44 (by decide) (by decide), f6 44 (by decide) (by decide), f5 44 (by decide) (by decide), f4 44 (by decide) (by decide), f3 44 (by decide) (by decide), f2 44 (by decide) (by decide), f1 44 (by decide) (by decide)]; exact l27) (by decide)
  rw [show fX6_copyFrom 226 227 24 44 45 24 s13 = some (0, s14) from e14, bnd_some]
  obtain ⟨s15, e15, f15, c15⟩ := row_copy (ro := 228) (r2 := 46) (rn := 8) (σ := s14) (w := 1) (by decide) (by rw [f14 228 (by decide) (by decide), f13 228 (by decide) (by decide), f12 228 (by decide) (by decide), f11 228 (by decide) (by decide), f10 228 (by decide) (by decide), f9 228 (by decide) (by decide), f8 228 (by decide) (by decide), f7 228 (by decide) (by decide), f6 228 (by decide) (by decide), f5 228 (by decide) (by decide), f4 228 (by decide) (by decide), f3 228 (by decide) (by decide), f2 228 (by decide) (by decide), f1 228 (by decide) (by decide)]; exact a29) (by rw [f14 46 (by decide) (by decide), f13 46 (by decide) (by decide), f12 46 (by decide) (by decide), f11 46 (by decide) (by decide), f10 46 (by decide) (by decide), f9 46 (by decide) (by decide), f8 46 (by decide) (by decide), f7 46 (by decide) (by decide), f6 46 (by decide) (by decide), f5 46 (by decide) (by decide), f4 46 (by decide) (by decide), f3 46 (by decide) (by decide), f2 46 (by decide) (by decide), f1 46 (by decide) (by decide)]; exact b29) (by rw [f14 46 (by decide) (by decide), f13 46 (by decide) (by decide), f12 46 (by decide) (by decide), f11 46 (by decide) (by decide), f10 46 (by decide) (by decide), f9 46 (by decide) (by decide), f8 46 (by decide) (by decide), f7 46 (by decide) (by decide), f6 46 (by decide) (by decide), f5 46 (by decide) (by decide), f4 46 (by decide) (by decide), f3 46 (by decide) (by decide), f2 46 (by decide) (by decide), f1 46 (by decide) (by decide)]; exact l29) (by decide)
  rw [show fX6_copyFrom 228 229 8 46 47 8 s14 = some (0, s15) from e15, bnd_some]
  obtain ⟨s16, e16, f16, c16⟩ := row_copy (ro := 230) (r2 := 48) (rn := 16) (σ := s15) (w := 2) (by decide) (by rw [f15 230 (by decide) (by decide), f14 230 (by decide) (by decide), f13 230 (by decide) (by decide), f12 230 (by decide) (by decide), f11 230 (by decide) (by decide), f10 230 (by decide) (by decide), f9 230 (by decide) (by decide), f8 230 (by decide) (by decide), f7 230 (by decide) (by decide), f6 230 (by decide) (by decide), f5 230 (by decide) (by decide), f4 230 (by decide) (by decide), f3 230 (by decide) (by decide), f2 230 (by decide) (by decide), f1 230 (by decide) (by decide)]; exact a31) (by rw [f15 48 (by decide) (by decide), f14 48 (by decide) (by decide), f13 48 (by decide) (by decide), f12 48 (by decide) (by decide), f11 48 (by decide) (by decide), f10 48 (by decide) (by decide), f9 48 (by decide) (by decide), f8 48 (by decide) (by decide), f7 48 (by decide) (by decide), f6 48 (by decide) (by decide), f5 48 (by decide) (by decide), f4 48 (by decide) (by decide), f3 48 (by decide) (by decide), f2 48 (by decide) (by decide), f1 48 (by decide) (by decide)]; exact b31) (by rw [f15 48 (by decide) (by decide), f14 48 (by decide) (by decide), f13 48 (by decide) (by decide), f12 48 (by decide) (by decide), f11 48 (by decide) (by decide), f10 48 (by decide) (by decide), f9 48 (by decide) (by decide), f8 48 (by decide) (by decide), f7 48 (by decide) (by decide), f6 48 (by decide) (by decide), f5 48 (by decide) (by decide), f4 48 (by decide) (by decide), f3 48 (by decide) (by decide), f2 48 (by decide) (by decide), f1 48 (by decide) (by decide)]; exact l31) (by decide)
  rw [show fX6_copyFrom 230 231 16 48 49 16 s15 = some (0, s16) from e16, bnd_some]
  refine ⟨s16, rfl, fun k hk => ?_, ?_, ?_, ?_, ?_, ?_, ?_, ?_, ?_, ?_, ?_, ?_, ?_, ?_, ?_, ?_, ?_⟩
  · rw [f16 k (by omega) (by omega), f15 k (by omega) (by omega), f14 k (by omega) (by omega), f13 k (by omega) (by omega), f12 k (by omega) (by omega), f11 k (by omega) (by omega), f10 k (by omega) (by omega), f9 k (by omega) (by omega), f8 k (by omega) (by omega), f7 k (by omega) (by omega), f6 k (by omega) (by omega), f5 k (by omega) (by omega), f4 k (by omega) (by omega), f3 k (by omega) (by omega), f2 k (by omega) (by omega), f1 k (by omega) (by omega)]
  · obtain ⟨z1, z2, z3⟩ := c1
    simp only [Nat.reduceAdd] at z3
    have x : s16 200 = s1 200 := by rw [f16 200 (by decide) (by decide), f15 200 (by decide) (by decide), f14 200 (by decide) (by decide), f13 200 (by decide) (by decide), f12 200 (by decide) (by decide), f11 200 (by decide) (by decide), f10 200 (by decide) (by decide), f9 200 (by decide) (by decide), f8 200 (by decide) (by decide), f7 200 (by decide) (by decide), f6 200 (by decide) (by decide), f5 200 (by decide) (by decide), f4 200 (by decide) (by decide), f3 200 (by decide) (by decide), f2 200 (by decide) (by decide)]
    have x1 : s16 201 = s1 201 := by rw [f16 201 (by decide) (by decide), f15 201 (by decide) (by decide), f14 201 (by decide) (by decide), f13 201 (by decide) (by decide), f12 201 (by decide) (by decide), f11 201 (by decide) (by decide), f10 201 (by decide) (by decide), f9 201 (by decide) (by decide), f8 201 (by decide) (by decide), f7 201 (by decide) (by decide), f6 201 (by decide) (by decide), f5 201 (by decide) (by decide), f4 201 (by decide) (by decide), f3 201 (by decide) (by decide), f2 201 (by decide) (by decide)]
    refine ⟨by rw [x]; exact z1, by rw [x]; exact z2, ?_⟩
    simp only [Nat.reduceAdd]
    rw [x1]
    exact z3
  · obtain ⟨z1, z2, z3⟩ := c2
    have y : s1 20 = σ 20 := by rw [f1 20 (by decide) (by decide)]
    have y1 : s1 21 = σ 21 := by rw [f1 21 (by decide) (by decide)]
    simp only [Nat.reduceAdd] at z3
    rw [y] at z1 z2 z3
    rw [y1] at z3
    have x : s16 202 = s2 202 := by rw [f16 202 (by decide) (by decide), f15 202 (by decide) (by decide), f14 202 (by decide) (by decide), f13 202 (by decide) (by decide), f12 202 (by decide) (by decide), f11 202 (by decide) (by decide), f10 202 (by decide) (by decide), f9 202 (by decide) (by decide), f8 202 (by decide) (by decide), f7 202 (by decide) (by decide), f6 202 (by decide) (by decide), f5 202 (by decide) (by decide), f4 202 (by decide) (by decide), f3 202 (by decide) (by decide)]
    have x1 : s16 203 = s2 203 := by rw [f16 203 (by decide) (by decide), f15 203 (by decide) (by decide), f14 203 (by decide) (by decide), f13 203 (by decide) (by decide), f12 203 (by decide) (by decide), f11 203 (by decide) (by decide), f10 203 (by decide) (by decide), f9 203 (by decide) (by decide), f8 203 (by decide) (by decide), f7 203 (by decide) (by decide), f6 203 (by decide) (by decide), f5 203 (by decide) (by decide), f4 203 (by decide) (by decide), f3 203 (by decide) (by decide)]
    refine ⟨by rw [x]; exact z1, by rw [x]; exact z2, ?_⟩
    simp only [Nat.reduceAdd]
    rw [x1]
    exact z3
  · obtain ⟨z1, z2, z3⟩ := c3
    have y : s2 22 = σ 22 := by rw [f2 22 (by decide) (by decide), f1 22 (by decide) (by decide)]
    have y1 : s2 23 = σ 23 := by rw [f2 23 (by decide) (by decide), f1 23 (by decide) (by decide)]
    simp only [Nat.reduceAdd] at z3
    rw [y] at z1 z2 z3
    rw [y1] at z3
    have x : s16 204 = s3 204 := by rw [f16 204 (by decide) (by decide), f15 204 (by decide) (by decide), f14 204 (by decide) (by decide), f13 204 (by decide) (by decide), f12 204 (by decide) (by decide), f11 204 (by decide) (by decide), f10 204 (by decide) (by decide), f9 204 (by decide) (by decide), f8 204 (by decide) (by decide), f7 204 (by decide) (by decide), f6 204 (by decide) (by decide), f5 204 (by decide) (by decide), f4 204 (by decide) (by decide)]
    have x1 : s16 205 = s3 205 := by rw [f16 205 (by decide) (by decide), f15 205 (by decide) (by decide), f14 205 (by decide) (by decide), f13 205 (by decide) (by decide), f12 205 (by decide) (by decide), f11 205 (by decide) (by decide), f10 205 (by decide) (by decide), f9 205 (by decide) (by decide), f8 205 (by decide) (by decide), f7 205 (by decide) (by decide), f6 205 (by decide) (by decide), f5 205 (by decide) (by decide), f4 205 (by decide) (by decide)]
    refine ⟨by rw [x]; exact z1, by rw [x]; exact z2, ?_⟩
    simp only [Nat.reduceAdd]
    rw [x1]
    exact z3
  · obtain ⟨z1, z2, z3⟩ := c4
    have y : s3 24 = σ 24 := by rw [f3 24 (by decide) (by decide), f2 24 (by decide) (by decide), f1 24 (by decide) (by decide)]
    have y1 : s3 25 = σ 25 := by rw [f3 25 (by decide) (by decide), f2 25 (by decide) (by decide), f1 25 (by decide) (by decide)]
    simp only [Nat.reduceAdd] at z3
    rw [y] at z1 z2 z3
    rw [y1] at z3
    have x : s16 206 = s4 206 := by rw [f16 206 (by decide) (by decide), f15 206 (by decide) (by decide), f14 206 (by decide) (by decide), f13 206 (by decide) (by decide), f12 206 (by decide) (by decide), f11 206 (by decide) (by decide), f10 206 (by decide) (by decide), f9 206 (by decide) (by decide), f8 206 (by decide) (by decide), f7 206 (by decide) (by decide), f6 206 (by decide) (by decide), f5 206 (by decide) (by decide)]
    have x1 : s16 207 = s4 207 := by rw [f16 207 (by decide) (by decide), f15 207 (by decide) (by decide), f14 207 (by decide) (by decide), f13 207 (by decide) (by decide), f12 207 (by decide) (by decide), f11 207 (by decide) (by decide), f10 207 (by decide) (by decide), f9 207 (by decide) (by decide), f8 207 (by decide) (by decide), f7 207 (by decide) (by decide), f6 207 (by decide) (by decide), f5 207 (by decide) (by decide)]
    refine ⟨by rw [x]; exact z1, by rw [x]; exact z2, ?_⟩
    simp only [Nat.reduceAdd]
    rw [x1]
    exact z3
  · obtain ⟨z1, z2, z3⟩ := c5
    have y : s4 26 = σ 26 := by rw [f4 26 (by decide) (by decide), f3 26 (by decide) (by decide), f2 26 (by decide) (by decide), f1 26 (by decide) (by decide)]
    have y1 : s4 27 = σ 27 := by rw [f4 27 (by decide) (by decide), f3 27 (by decide) (by decide), f2 27 (by decide) (by decide), f1 27 (by decide) (by decide)]
    simp only [Nat.reduceAdd] at z3
    rw [y] at z1 z2 z3
    rw [y1] at z3
    have x : s16 208 = s5 208 := by rw [f16 208 (by decide) (by decide), f15 208 (by decide) (by decide), f14 208 (by decide) (by decide), f13 208 (by decide) (by decide), f12 208 (by decide) (by decide), f11 208 (by decide) (by decide), f10 208 (by decide) (by decide), f9 208 (by decide) (by decide), f8 208 (by decide) (by decide), f7 208 (by decide) (by decide), f6 208 (by decide) (by decide)]
    have x1 : s16 209 = s5 209 := by rw [f16 209 (by decide) (by decide), f15 209 (by decide) (by decide), f14 209 (by decide) (by decide), f13 209 (by decide) (by decide), f12 209 (by decide) (by decide), f11 209 (by decide) (by decide), f10 209 (by decide) (by decide), f9 209 (by decide) (by decide), f8 209 (by decide) (by decide), f7 209 (by decide) (by decide), f6 209 (by decide) (by decide)]
    refine ⟨by rw [x]; exact z1, by rw [x]; exact z2, ?_⟩
    simp only [Nat.reduceAdd]
    rw [x1]
    exact z3
  · obtain ⟨z1, z2, z3⟩ := c6
    have y : s5 28 = σ 28 := by rw [f5 28 (by decide) (by decide), f4 28 (by decide) (by decide), f3 28 (by decide) (by decide), f2 28 (by decide) (by decide), f1 28 (by decide) (by decide)]
    have y1 : s5 29 = σ 29 := by rw [f5 29 (by decide) (by decide), f4 29 (by decide) (by decide), f3 29 (by decide) (by decide), f2 29 (by decide) (by decide), f1 29 (by decide) (by decide)]
    simp only [Nat.reduceAdd] at z3
    rw [y] at z1 z2 z3
    rw [y1] at z3
    have x : s16 210 = s6 210 := by rw [f16 210 (by decide) (by decide), f15 210 (by decide) (by decide), f14 210 (by decide) (by decide), f13 210 (by decide) (by decide), f12 210 (by decide) (by decide), f11 210 (by decide) (by decide), f10 210 (by decide) (by decide), f9 210 (by decide) (by decide), f8 210 (by decide) (by decide), f7 210 (by decide) (by decide)]
    have x1 : s16 211 = s6 211 := by rw [f16 211 (by decide) (by decide), f15 211 (by decide) (by decide), f14 211 (by decide) (by decide), f13 211 (by decide) (by decide), f12 211 (by decide) (by decide), f11 211 (by decide) (by decide), f10 211 (by decide) (by decide), f9 211 (by decide) (by decide), f8 211 (by decide) (by decide), f7 211 (by decide) (by decide)]
    refine ⟨by rw [x]; exact z1, by rw [x]; exact z2, ?_⟩
    simp only [Nat.reduceAdd]
    rw [x1]
    exact z3
  · obtain ⟨z1, z2, z3⟩ := c7
    have y : s6 30 = σ 30 := by rw [f6 30 (by decide) (by decide), f5 30 (by decide) (by decide), f4 30 (by decide) (by decide), f3 30 (by decide) (by decide), f2 30 (by decide) (by decide), f1 30 (by decide) (by decide)]
    have y1 : s6 31 = σ 31 := by rw [f6 31 (by decide) (by decide), f5 31 (by decide) (by decide), f4 31 (by decide) (by decide), f3 31 (by decide) (by decide), f2 31 (by decide) (by decide), f1 31 (by decide) (by decide)]
    simp only [Nat.reduceAdd] at z3
    rw [y] at z1 z2 z3
    rw [y1] at z3
    have x : s16 212 = s7 212 := by rw [f16 212 (by decide) (by decide), f15 212 (by decide) (by decide), f14 212 (by decide) (by decide), f13 212 (by decide) (by decide), f12 212 (by decide) (by decide), f11 212 (by decide) (by decide), f10 212 (by decide) (by decide), f9 212 (by decide) (by decide), f8 212 (by decide) (by decide)]
    have x1 : s16 213 = s7 213 := by rw [f16 213 (by decide) (by decide), f15 213 (by decide) (by decide), f14 213 (by decide) (by decide), f13 213 (by decide) (by decide), f12 213 (by decide) (by decide), f11 213 (by decide) (by decide), f10 213 (by decide) (by decide), f9 213 (by decide) (by decide), f8 213 (by decide) (by decide)]
    refine ⟨by rw [x]; exact z1, by rw [x]; exact z2, ?_⟩
    simp only [Nat.reduceAdd]
    rw [x1]
    exact z3
  · obtain ⟨z1, z2, z3⟩ := c8
    have y : s7 32 = σ 32 := by rw [f7 32 (by decide) (by decide), f6 32 (by decide) (by decide), f5 32 (by decide) (by decide), f4 32 (by decide) (by decide), f3 32 (by decide) (by decide), f2 32 (by decide) (by decide), f1 32 (by decide) (by decide)]
    have y1 : s7 33 = σ 33 := by rw [f7 33 (by decide) (by decide), f6 33 (by decide) (by decide), f5 33 (by decide) (by decide), f4 33 (by decide) (by decide), f3 33 (by decide) (by decide), f2 33 (by decide) (by decide), f1 33 (by decide) (by decide)]
    simp only [Nat.reduceAdd] at z3
    rw [y] at z1 z2 z3
    rw [y1] at z3
    have x : s16 214 = s8 214 := by rw [f16 214 (by decide) (by decide), f15 214 (by decide) (by decide), f14 214 (by decide) (by decide), f13 214 (by decide) (by decide), f12 214 (by decide) (by decide), f11 214 (by decide) (by decide), f10 214 (by decide) (by decide), f9 214 (by decide) (by decide)]
    have x1 : s16 215 = s8 215 := by rw [f16 215 (by decide) (by decide), f15 215 (by decide) (by decide), f14 215 (by decide) (by decide), f13 215 (by decide) (by decide), f12 215 (by decide) (by decide), f11 215 (by decide) (by decide), f10 215 (by decide) (by decide), f9 215 (by decide) (by decide)]
    refine ⟨by rw [x]; exact z1, by rw [x]; exact z2, ?_⟩
    simp only [Nat.reduceAdd]
    rw [x1]
    exact z3
  · obtain ⟨z1, z2, z3⟩ := c9
    have y : s8 34 = σ 34 := by rw [f8 34 (by decide) (by decide), f7 34 (by decide) (by decide), f6 34 (by decide) (by decide), f5 34 (by decide) (by decide), f4 34 (by decide) (by decide), f3 34 (by decide) (by decide), f2 34 (by decide) (by decide), f1 34 (by decide) (by decide)]
    have y1 : s8 35 = σ 35 := by rw [f8 35 (by decide) (by decide), f7 35 (by decide) (by decide), f6 35 (by decide) (by decide), f5 35 (by decide) (by decide), f4 35 (by decide) (by decide), f3 35 (by decide) (by decide), f2 35 (by decide) (by decide), f1 35 (by decide) (by decide)]
    simp only [Nat.reduceAdd] at z3
    rw [y] at z1 z2 z3
    rw [y1] at z3
    have x : s16 216 = s9 216 := by rw [f16 216 (by decide) (by decide), f15 216 (by decide) (by decide), f14 216 (by decide) (by decide), f13 216 (by decide) (by decide), f12 216 (by decide) (by decide), f11 216 (by decide) (by decide), f10 216 (by decide) (by decide)]
    have x1 : s16 217 = s9 217 := by rw [f16 217 (by decide) (by decide), f15 217 (by decide) (by decide), f14 217 (by decide) (by decide), f13 217 (by decide) (by decide), f12 217 (by decide) (by decide), f11 217 (by decide) (by decide), f10 217 (by decide) (by decide)]
    refine ⟨by rw [x]; exact z1, by rw [x]; exact z2, ?_⟩
    simp only [Nat.reduceAdd]
    rw [x1]
    exact z3
  · obtain ⟨z1, z2, z3⟩ := c10
    have y : s9 36 = σ 36 := by rw [f9 36 (by decide) (by decide), f8 36 (by decide) (by decide), f7 36 (by decide) (by decide), f6 36 (by decide) (by decide), f5 36 (by decide) (by decide), f4 36 (by decide) (by decide), f3 36 (by decide) (by decide), f2 36 (by decide) (by decide), f1 36 (by decide) (by decide)]
    have y1 : s9 37 = σ 37 := by rw [f9 37 (by decide) (by decide), f8 37 (by decide) (by decide), f7 37 (by decide) (by decide), f6 37 (by decide) (by decide), f5 37 (by decide) (by decide), f4 37 (by decide) (by decide), f3 37 (by decide) (by decide), f2 37 (by decide) (by decide), f1 37 (by decide) (by decide)]
    simp only [Nat.reduceAdd] at z3
    rw [y] at z1 z2 z3
    rw [y1] at z3
    have x : s16 218 = s10 218 := by rw [f16 218 (by decide) (by decide), f15 218 (by decide) (by decide), f14 218 (by decide) (by decide), f13 218 (by decide) (by decide), f12 218 (by decide) (by decide), f11 218 (by decide) (by decide)]
    have x1 : s16 219 = s10 219 := by rw [f16 219 (by decide) (by decide), f15 219 (by decide) (by decide), f14 219 (by decide) (by decide), f13 219 (by decide) (by decide), f12 219 (by decide) (by decide), f11 219 (by decide) (by decide)]
    refine ⟨by rw [x]; exact z1, by rw [x]; exact z2, ?_⟩
    simp only [Nat.reduceAdd]
    rw [x1]
    exact z3
  · obtain ⟨z1, z2, z3⟩ := c11
    have y : s10 38 = σ 38 := by rw [f10 38 (by decide) (by decide), f9 38 (by decide) (by decide), f8 38 (by decide) (by decide), f7 38 (by decide) (by decide), f6 38 (by decide) (by decide), f5 38 (by decide) (by decide), f4 38 (by decide) (by decide), f3 38 (by decide) (by decide), f2 38 (by decide) (by decide), f1 38 (by decide) (by decide)]
    have y1 : s10 39 = σ 39 := by rw [f10 39 (by decide) (by decide), f9 39 (by decide) (by decide), f8 39 (by decide) (by decide), f7 39 (by decide) (by decide), f6 39 (by decide) (by decide), f5 39 (by decide) (by decide), f4 39 (by decide) (by decide), f3 39 (by decide) (by decide), f2 39 (by decide) (by decide), f1 39 (by decide) (by decide)]
    simp only [Nat.reduceAdd] at z3
    rw [y] at z1 z2 z3
    rw [y1] at z3
    have x : s16 220 = s11 220 := by rw [f16 220 (by decide) (by decide), f15 220 (by decide) (by decide), f14 220 (by decide) (by decide), f13 220 (by decide) (by decide), f12 220 (by decide) (by decide)]
    have x1 : s16 221 = s11 221 := by rw [f16 221 (by decide) (by decide), f15 221 (by decide) (by decide), f14 221 (by decide) (by decide), f13 221 (by decide) (by decide), f12 221 (by decide) (by decide)]
    refine ⟨by rw [x]; exact z1, by rw [x]; exact z2, ?_⟩
    simp only [Nat.reduceAdd]
    rw [x1]
    exact z3
  · obtain ⟨z1, z2, z3⟩ := c12
    have y : s11 40 = σ 40 := by rw [f11 40 (by decide) (by decide), f10 40 (by decide) (by decide), f9 40 (by decide) (by decide), f8 40 (by decide) (by decide), f7 40 (by decide) (by decide), f6 40 (by decide) (by decide), f5 40 (by decide) (by decide), f4 40 (by decide) (by decide), f3 40 (by decide) (by decide), f2 40 (by decide) (by decide), f1 40 (by decide) (by decide)]
    have y1 : s11 41 = σ 41 := by rw [f11 41 (by decide) (by decide), f10 41 (by decide) (by decide), f9 41 (by decide) (by decide), f8 41 (by decide) (by decide), f7 41 (by decide) (by decide), f6 41 (by decide) (by decide), f5 41 (by decide) (by decide), f4 41 (by decide) (by decide), f3 41 (by decide) (by decide), f2 41 (by decide) (by decide), f1 41 (by decide) (by decide)]
    simp only [Nat.reduceAdd] at z3
    rw [y] at z1 z2 z3
    rw [y1] at z3
    have x : s16 222 = s12 222 := by rw [f16 222 (by decide) (by decide), f15 222 (by decide) (by decide), f14 222 (by decide) (by decide), f13 222 (by decide) (by decide)]
    have x1 : s16 223 = s12 223 := by rw [f16 223 (by decide) (by decide), f15 223 (by decide) (by decide), f14 223 (by decide) (by decide), f13 223 (by decide) (by decide)]
    refine ⟨by rw [x]; exact z1, by rw [x]; exact z2, ?_⟩
    simp only [Nat.reduceAdd]
    rw [x1]
    exact z3
  · obtain ⟨z1, z2, z3⟩ := c13
    have y : s12 42 = σ 42 := by rw [f12 42 (by decide) (by decide), f11 42 (by decide) (by decide), f10 42 (by decide) (by decide), f9 42 (by decide) (by decide), f8 42 (by decide) (by decide), f7 42 (by decide) (by decide), f6 42 (by decide) (by decide), f5 42 (by decide) (by decide), f4 42 (by decide) (by decide), f3 42 (by decide) (by decide), f2 42 (by decide) (by decide), f1 42 (by decide) (by decide)]
    have y1 : s12 43 = σ 43 := by rw [f12 43 (by decide) (by decide), f11 43 (by decide) (by decide), f10 43 (by decide) (by decide), f9 43 (by decide) (by decide), f8 43 (by decide) (by decide), f7 43 (by decide) (by decide), f6 43 (by decide) (by decide), f5 43 (by decide) (by decide), f4 43 (by decide) (by decide), f3 43 (by decide) (by decide), f2 43 (by decide) (by decide), f1 43 (by decide) (by decide)]
    simp only [Nat.reduceAdd] at z3
    rw [y] at z1 z2 z3
    rw [y1] at z3
    have x : s16 224 = s13 224 := by rw [f16 224 (by decide) (by decide), f15 224 (by decide) (by decide), f14 224 (by decide) (by decide)]
    have x1 : s16 225 = s13 225 := by rw [f16 225 (by decide) (by decide), f15 225 (by decide) (by decide), f14 225 (by decide) (by decide)]
    refine ⟨by rw [x]; exact z1, by rw [x]; exact z2, ?_⟩
    simp only [Nat.reduceAdd]
    rw [x1]
    exact z3
  · obtain ⟨z1, z2, z3⟩ := c14
    have y : s13 44 = σ 44 := by rw [f13 44 (by decide) (by decide), f12 44 (by decide) (by decide), f11 44 (by decide) (by decide), f10 44 (by decide) (by decide), f9 44 (by decide) (by decide), f8 44 (by decide) (by decide), f7 44 (by decide) (by decide), f6 44 (by decide) (by decide), f5 44 (by decide) (by decide), f4 44 (by decide) (by decide), f3 44 (by decide) (by decide), f2 44 (by decide) (by decide), f1 44 (by decide) (by decide)]
    have y1 : s13 45 = σ 45 := by rw [f13 45 (by decide) (by decide), f12 45 (by decide) (by decide), f11 45 (by decide) (by decide), f10 45 (by decide) (by decide), f9 45 (by decide) (by decide), f8 45 (by decide) (by decide), f7 45 (by decide) (by decide), f6 45 (by decide) (by decide), f5 45 (by decide) (by decide), f4 45 (by decide) (by decide), f3 45 (by decide) (by decide), f2 45 (by decide) (by decide), f1 45 (by decide) (by decide)]
    simp only [Nat.reduceAdd] at z3
    rw [y] at z1 z2 z3
    rw [y1] at z3
    have x : s16 226 = s14 226 := by rw [f16 226 (by decide) (by decide), f15 226 (by decide) (by decide)]
    have x1 : s16 227 = s14 227 := by rw [f16 227 (by decide) (by decide), f15 227 (by decide) (by decide)]
    refine ⟨by rw [x]; exact z1, by rw [x]; exact z2, ?_⟩
    simp only [Nat.reduceAdd]
    rw [x1]
    exact z3
  · obtain ⟨z1, z2, z3⟩ := c15
    have y : s14 46 = σ 46 := by rw [f14 46 (by decide) (by decide), f13 46 (by decide) (by decide), f12 46 (by decide) (by decide), f11 46 (by decide) (by decide), f10 46 (by decide) (by decide), f9 46 (by decide) (by decide), f8 46 (by decide) (by decide), f7 46 (by decide) (by decide), f6 46 (by decide) (by decide), f5 46 (by decide) (by decide), f4 46 (by decide) (by decide), f3 46 (by decide) (by decide), f2 46 (by decide) (by decide), f1 46 (by decide) (by decide)]
    have y1 : s14 47 = σ 47 := by rw [f14 47 (by decide) (by decide), f13 47 (by decide) (by decide), f12 47 (by decide) (by decide), f11 47 (by decide) (by decide), f10 47 (by decide) (by decide), f9 47 (by decide) (by decide), f8 47 (by decide) (by decide), f7 47 (by decide) (by decide), f6 47 (by decide) (by decide), f5 47 (by decide) (by decide), f4 47 (by decide) (by decide), f3 47 (by decide) (by decide), f2 47 (by decide) (by decide), f1 47 (by decide) (by decide)]
    simp only [Nat.reduceAdd] at z3
    rw [y] at z1 z2 z3
    rw [y1] at z3
    have x : s16 228 = s15 228 := by rw [f16 228 (by decide) (by decide)]
    have x1 : s16 229 = s15 229 := by rw [f16 229 (by decide) (by decide)]
    refine ⟨by rw [x]; exact z1, by rw [x]; exact z2, ?_⟩
    simp only [Nat.reduceAdd]
    rw [x1]
    exact z3
  · obtain ⟨z1, z2, z3⟩ := c16
    have y : s15 48 = σ 48 := by rw [f15 48 (by decide) (by decide), f14 48 (by decide) (by decide), f13 48 (by decide) (by decide), f12 48 (by decide) (by decide), f11 48 (by decide) (by decide), f10 48 (by decide) (by decide), f9 48 (by decide) (by decide), f8 48 (by decide) (by decide), f7 48 (by decide) (by decide), f6 48 (by decide) (by decide), f5 48 (by decide) (by decide), f4 48 (by decide) (by decide), f3 48 (by decide) (by decide), f2 48 (by decide) (by decide), f1 48 (by decide) (by decide)]
    have y1 : s15 49 = σ 49 := by rw [f15 49 (by decide) (by decide), f14 49 (by decide) (by decide), f13 49 (by decide) (by decide), f12 49 (by decide) (by decide), f11 49 (by decide) (by decide), f10 49 (by decide) (by decide), f9 49 (by decide) (by decide), f8 49 (by decide) (by decide), f7 49 (by decide) (by decide), f6 49 (by decide) (by decide), f5 49 (by decide) (by decide), f4 49 (by decide) (by decide), f3 49 (by decide) (by decide), f2 49 (by decide) (by decide), f1 49 (by decide) (by decide)]
    simp only [Nat.reduceAdd] at z3
    rw [y] at z1 z2 z3
    rw [y1] at z3
    exact ⟨z1, z2, z3⟩
theorem told_back {σ : St} (a1 : σ 18 0 = 4) (b1 : σ 200 0 = 4) (l1 : 0 ≤ σ 200 2 * 4 ∧ σ 200 2 * 4 ≤ 64) (a3 : σ 20 0 = 1) (b3 : σ 202 0 = 1) (l3 : 0 ≤ σ 202 2 * 1 ∧ σ 202 2 * 1 ≤ 400) (a5 : σ 22 0 = 4) (b5 : σ 204 0 = 4) (l5 : 0 ≤ σ 204 2 * 4 ∧ σ 204 2 * 4 ≤ 64) (a7 : σ 24 0 = 4) (b7 : σ 206 0 = 4) (l7 : 0 ≤ σ 206 2 * 4 ∧ σ 206 2 * 4 ≤ 64) (a9 : σ 26 0 = 4) (b9 : σ 208 0 = 4) (l9 : 0 ≤ σ 208 2 * 4 ∧ σ 208 2 * 4 ≤ 64) (a11 : σ 28 0 = 5) (b11 : σ 210 0 = 5) (l11 : 0 ≤ σ 210 2 * 5 ∧ σ 210 2 * 5 ≤ 50) (a13 : σ 30 0 = 2) (b13 : σ 212 0 = 2) (l13 : 0 ≤ σ 212 2 * 2 ∧ σ 212 2 * 2 ≤ 10) (a15 : σ 32 0 = 4) (b15 : σ 214 0 = 4) (l15 : 0 ≤ σ 214 2 * 4 ∧ σ 214 2 * 4 ≤ 48) (a17 : σ 34 0 = 1) (b17 : σ 216 0 = 1) (l17 : 0 ≤ σ 216 2 * 1 ∧ σ 216 2 * 1 ≤ 8) (a19 : σ 36 0 = 1) (b19 : σ 218 0 = 1) (l19 : 0 ≤ σ 218 2 * 1 ∧ σ 218 2 * 1 ≤ 12) (a21 : σ 38 0 = 1) (b21 : σ 220 0 = 1) (l21 : 0 ≤ σ 220 2 * 1 ∧ σ 220 2 * 1 ≤ 24) (a23 : σ 40 0 = 1) (b23 : σ 222 0 = 1) (l23 : 0 ≤ σ 222 2 * 1 ∧ σ 222 2 * 1 ≤ 12) (a25 : σ 42 0 = 1) (b25 : σ 224 0 = 1) (l25 : 0 ≤ σ 224 2 * 1 ∧ σ 224 2 * 1 ≤ 12) (a27 : σ 44 0 = 1) (b27 : σ 226 0 = 1) (l27 : 0 ≤ σ 226 2 * 1 ∧ σ 226 2 * 1 ≤ 24) (a29 : σ 46 0 = 1) (b29 : σ 228 0 = 1) (l29 : 0 ≤ σ 228 2 * 1 ∧ σ 228 2 * 1 ≤ 8) (a31 : σ 48 0 = 2) (b31 : σ 230 0 = 2) (l31 : 0 ≤ σ 230 2 * 2 ∧ σ 230 2 * 2 ≤ 16) : ∃ σ', fX9_copyFrom_17_199 σ = some (0, σ') ∧ (∀ k, ¬ (18 ≤ k ∧ k ≤ 49) → σ' k = σ k) ∧ TCr σ σ' 18 200 ∧ TCr σ σ' 20 202 ∧ TCr σ σ' 22 204 ∧ TCr σ σ' 24 206 ∧ TCr σ σ' 26 208 ∧ TCr σ σ' 28 210 ∧ TCr σ σ' 30 212 ∧ TCr σ σ' 32 214 ∧ TCr σ σ' 34 216 ∧ TCr σ σ' 36 218 ∧ TCr σ σ' 38 220 ∧ TCr σ σ' 40 222 ∧ TCr σ σ' 42 224 ∧ TCr σ σ' 44 226 ∧ TCr σ σ' 46 228 ∧ TCr σ σ' 48 230 := by
  unfold fX9_copyFrom_17_199
  obtain ⟨s1, e1, f1, c1⟩ := row_copy (ro := 18) (r2 := 200) (rn := 64) (σ := σ) (w := 4) (by decide) (a1) (b1) (l1) (by decide)
  rw [show fX6_copyFrom 18 19 64 200 201 64 σ = some (0, s1) from e1, bnd_some]
  obtain ⟨s2, e2, f2, c2⟩ := row_copy (ro := 20) (r2 := 202) (rn := 400) (σ := s1) (w := 1) (by decide) (by rw [f1 20 (by decide) (by decide)]; exact a3) (by rw [f1 202 (by decide) (by decide)]; exact b3) (by rw [f1 202 (by decide) (by decide)]; exact l3) (by decide)
  rw [show fX6_copyFrom 20 21 400 202 203 400 s1 = some (0, s2) from e2, bnd_some]
  obtain ⟨s3, e3, f3, c3⟩ := row_copy (ro := 22) (r2 := 204) (rn := 64) (σ := s2) (w := 4) (by decide) (by rw [f2 22 (by decide) (by decide), f1 22 (by decide) (by decide)]; exact a5) (by rw [f2 204 (by decide) (by decide), f1 204 (by decide) (by decide)]; exact b5) (by rw [f2 204 (by decide) (by decide), f1 204 (by decide) (by decide)]; exact l5) (by decide)
  rw [show fX6_copyFrom 22 23 64 204 205 64 s2 = some (0, s3) from e3, bnd_some]
  obtain ⟨s4, e4, f4, c4⟩ := row_copy (ro := 24) (r2 := 206) (rn := 64) (σ := s3) (w := 4) (by decide) (by rw [f3 24 (by decide) (by decide), f2 24 (by decide) (by decide), f1 24 (by decide) (by decide)]; exact a7) (by rw [f3 206 (by decide) (by decide), f2 206 (by decide) (by decide), f1 206 (by decide) (by decide)]; exact b7) (by rw [f3 206 (by decide) (by decide), f2 206 (by decide) (by decide), f1 206 (by decide) (by decide)]; exact l7) (by decide)
  rw [show fX6_copyFrom 24 25 64 206 207 64 s3 = some (0, s4) from e4, bnd_some]
  obtain ⟨s5, e5, f5, c5⟩ := row_copy (ro := 26) (r2 := 208) (rn := 64) (σ := s4) (w := 4) (by decide) (by rw [f4 26 (by decide) (by decide), f3 26 (by decide) (by decide), f2 26 (by decide) (by decide), f1 26 (by decide) (by decide)]; exact a9) (by rw [f4 208 (by decide) (by decide), f3 208 (by decide) (by decide), f2 208 (by decide) (by decide), f1 208 (by decide) (by decide)]; exact b9) (by rw [f4 208 (by decide) (by decide), f3 208 (by decide) (by decide), f2 208 (by decide) (by decide), f1 208 (by decide) (by decide)]; exact l9) (by decide)
  rw [show fX6_copyFrom 26 27 64 208 209 64 s4 = some (0, s5) from e5, bnd_some]
  obtain ⟨s6, e6, f6, c6⟩ := row_copy (ro := 28) (r2 := 210) (rn := 50) (σ := s5) (w := 5) (by decide) (by rw [f5 28 (by decide) (by decide), f4 28 (by decide) (by decide), f3 28 (by decide) (by decide), f2 28 (by decide) (by decide), f1 28 (by decide) (by decide)]; exact a11) (by rw [f5 210 (by decide) (by decide), f4 210 (by decide) (by decide), f3 210 (by decide) (by decide), f2 210 (by decide) (by decide), f1 210 (by decide) (by decide)]; exact b11) (by rw [f5 210 (by decide) (by decide), f4 210 (by decide) (by decide), f3 210 (by decide) (by decide), f2 210 (by decide) (by decide), f1 210 (by decide) (by decide)]; exact l11) (by decide)
  rw [show fX6_copyFrom 28 29 50 210 211 50 s5 = some (0, s6) from e6, bnd_some]
  obtain ⟨s7, e7, f7, c7⟩ := row_copy (ro := 30) (r2 := 212) (rn := 10) (σ := s6) (w := 2) (by decide) (by rw [f6 30 (by decide) (by decide), f5 30 (by decide) (by decide), f4 30 (by decide) (by decide), f3 30 (by decide) (by decide), f2 30 (by decide) (by decide), f1 30 (by decide) (by decide)]; exact a13) (by rw [f6 212 (by decide) (by decide), f5 212 (by decide) (by decide), f4 212 (by decide) (by decide), f3 212 (by decide) (by decide), f2 212 (by decide) (by decide), f1 212 (by decide) (by decide)]; exact b13) (by rw [f6 212 (by decide) (by decide), f5 212 (by decide) (by decide), f4 212 (by decide) (by decide), f3 212 (by decide) (by decide), f2 212 (by decide) (by decide), f1 212 (by decide) (by decide)]; exact l13) (by decide)
  rw [show fX6_copyFrom 30 31 10 212 213 10 s6 = some (0, s7) from e7, bnd_some]
  obtain ⟨s8, e8, f8, c8⟩ := row_copy (ro := 32) (r2 := 214) (rn := 48) (σ := s7) (w := 4) (by decide) (by rw [f7 32 (by decide) (by decide), f6 32 (by decide) (by decide), f5 32 (by decide) (by decide), f4 32 (by decide) (by decide), f3 32 (by decide) (by decide), f2 32 (by decide) (by decide), f1 32 (by decide) (by decide)]; exact a15) (by rw [f7 214 (by decide) (by decide), f6 214 (by decide) (by decide), f5 214 (by decide) (by decide), f4 214 (by decide) (by decide), f3 214 (by decide) (by decide), f2 214 (by decide) (by decide), f1 214 (by decide) (by decide)]; exact b15) (by rw [f7 214 (by decide) (by decide), f6 214 (by decide) (by decide), f5 214 (by decide) (by decide), f4 214 (by decide) (by decide), f3 214 (by decide) (by decide), f2 214 (by decide) (by decide), f1 214 (by decide) (by decide)]; exact l15) (by decide)
  rw [show fX6_copyFrom 32 33 48 214 215 48 s7 = some (0, s8) from e8, bnd_some]
  obtain ⟨s9, e9, f9, c9⟩ := row_copy (ro := 34) (r2 := 216) (rn := 8) (σ := s8) (w := 1) (by decide) (by rw [f8 34 (by decide) (by decide), f7 34 (by decide) (by decide), f6 34 (by decide) (by decide), f5 34 (by decide) (by decide), f4 34 (by decide) (by decide), f3 34 (by decide) (by decide), f2 34 (by decide) (by decide), f1 34 (by decide) (by decide)]; exact a17) (by rw [f8 216 (by decide) (by decide), f7 216 (by decide) (by decide), f6 216 (by decide) (by decide), f5 216 (by decide) (by decide), f4 216 (by decide) (by decide), f3 216 (by decide) (by decide), f2 216 (by decide) (by decide), f1 216 (by decide) (by decide)]; exact b17) (by rw [f8 216 (by decide) (by decide), f7 216 (by decide) (by decide), f6 216 (by decide) (by decide), f5 216 (by decide) (by decide), f4 216 (by decide) (by decide), f3 216 (by decide) (by decide), f2 216 (by decide) (by decide), f1 216 (by decide) (by decide)]; exact l17) (by decide)
  rw [show fX6_copyFrom 34 35 8 216 217 8 s8 = some (0, s9) from e9, bnd_some]
  obtain ⟨s10, e10, f10, c10⟩ := row_copy (ro := 36) (r2 := 218) (rn := 12) (σ := s9) (w := 1) (by decide) (by rw [f9 36 (by decide) (by decide), f8 36 (by decide) (by decide), f7 36 (by decide) (by decide), f6 36 (by decide) (by decide), f5 36 (by decide) (by decide), f4 36 (by decide) (by decide), f3 36 (by decide) (by decide), f2 36 (by decide) (by decide), f1 36 (by decide) (by decide)]; exact a19) (by rw [f9 218 (by decide) (by decide), f8 218 (by decide) (by decide), f7 218 (by decide) (by decide), f6 218 (by decide) (by decide), f5 218 (by decide) (by decide), f4 218 (by decide) (by decide), f3 218 (by decide) (by decide), f2 218 (by decide) (by decide), f1 218 (by decide) (by decide)]; exact b19) (by rw [f9 218 (by decide) (by decide), f8 218 (by decide) (by decide), f7 218 (by decide) (by decide), f6 218 (by decide) (by decide), f5 218 (by decide) (by decide), f4 218 (by decide) (by decide), f3 218 (by decide) (by decide), f2 218 (by decide) (by decide), f1 218 (by decide) (by decide)]; exact l19) (by decide)
  rw [show fX6_copyFrom 36 37 12 218 219 12 s9 = some (0, s10) from e10, bnd_some]
  obtain ⟨s11, e11, f11, c11⟩ := row_copy (ro := 38) (r2 := 220) (rn := 24) (σ := s10) (w := 1) (by decide) (by rw [f10 38 (by decide) (by decide), f9 38 (by decide) (by decide), f8 38 (by decide) (by decide), f7 38 (by decide) (by decide), f6 38 (by decide) (by decide), f5 38 (by decide) (by decide), f4 38 (by decide) (by decide), f3 38 (by decide) (by decide), f2 38 (by decide) (by decide), f1 38 (by decide) (by decide)]; exact a21) (by rw [f10 220 (by decide) (by decide), f9 220 (by decide) (by decide), f8 220 (by decide) (by decide), f7 220 (by decide) (by decide), f6 220 (by decide) (by decide), f5 220 (by decide) (by decide), f4 220 (by decide) (by decide), f3 220 (by decide) (by decide), f2 220 (by decide) (by decide), f1 220 (by decide) (by decide)]; exact b21) (by rw [f10 220 (by decide) (by decide), f9 220 (by decide) (by decide), f8 220 (by decide) (by decide), f7 220 (by decide) (by decide), f6 220 (by decide) (by decide), f5 220 (by decide) (by decide), f4 220 (by decide) (by decide), f3 220 (by decide) (by decide), f2 220 (by decide) (by decide), f1 220 (by decide) (by decide)]; exact l21) (by decide)
  rw [show fX6_copyFrom 38 39 24 220 221 24 s10 = some (0, s11) from e11, bnd_some]
  obtain ⟨s12, e12, f12, c12⟩ := row_copy (ro := 40) (r2 := 222) (rn := 12) (σ := s11) (w := 1) (by decide) (by rw [f11 40 (by decide) (by decide), f10 40 (by decide) (by decide), f9 40 (by decide) (by decide), f8 40 (by decide) (by decide), f7 40 (by decide) (by decide), f6 40 (by decide) (by decide), f5 40 (by decide) (by decide), f4 40 (by decide) (by decide), f3 40 (by decide) (by decide), f2 40 (by decide) (by decide), f1 40 (by decide) (by decide)]; exact a23) (by rw [f11 222 (by decide) (by decide), f10 222 (by decide) (by decide), f9 222 (by decide) (by decide), f8 222 (by decide) (by decide), f7 222 (by decide) (by decide), f6 222 (by decide) (by decide), f5 222 (by decide) (by decide), f4 222 (by decide) (by decide), f3 222 (by decide) (by decide), f2 222 (by decide) (by decide), f1 222 (by decide) (by decide)]; exact b23) (by rw [f11 222 (by decide) (by decide), f10 222 (by decide) (by decide), f9 222 (by decide) (by decide), f8 222 (by decide) (by decide), f7 222 (by decide) (by decide), f6 222 (by decide) (by decide), f5 222 (by decide) (by decide), f4 222 (by decide) (by decide), f3 222 (by decide) (by decide), f2 222 (by decide) (by decide), f1 222 (by decide) (by decide)]; exact l23) (by decide)
  rw [show fX6_copyFrom 40 41 12 222 223 12 s11 = some (0, s12) from e12, bnd_some]
  obtain ⟨s13, e13, f13, c13⟩ := row_copy (ro := 42) (r2 := 224) (rn := 12) (σ := s12) (w := 1) (by decide) (by rw [f12 42 (by decide) (by decide), f11 42 (by decide) (by decide), f10 42 (by decide) (by decide), f9 42 (by decide) (by decide), f8 42 (by decide) (by decide), f7 42 (by decide) (by decide), f6 42 (by decide) (by decide), f5 42 (by decide) (by decide), f4 42 (by decide) (by decide), f3 42 (by decide) (by decide), f2 42 (by decide) (by decide), f1 42 (by decide) (by decide)]; exact a25) (by rw [f12 224 (by decide) (by decide), f11 224 (by decide) (by decide), f10 224 (by decide) (by decide), f9 224 (by decide) (by decide), f8 224 (by decide) (by decide), f7 224 (by decide) (by decide), f6 224 (by decide) (by decide), f5 224 (by decide) (by decide), f4 224 (by decide) (by decide), f3 224 (by decide) (by decide), f2 224 (by decide) (by decide), f1 224 (by decide) (by decide)]; exact b25) (by rw [f12 224 (by decide) (by decide), f11 224 (by decide) (by decide), f10 224 (by decide) (by decide), f9 224 (by decide) (by decide), f8 224 (by decide) (by decide), f7 224 (by decide) (by decide), f6 224 (by decide) (by decide), f5 224 (by decide) (by decide), f4 224 (by decide) (by decide), f3 224 (by decide) (by decide), f2 224 (by decide) (by decide), f1 224 (by decide) (by decide)]; exact l25) (by decide)
  rw [show fX6_copyFrom 42 43 12 224 225 12 s12 = some (0, s13) from e13, bnd_some]
  obtain ⟨s14, e14, f14, c14⟩ := row_copy (ro := 44) (r2 := 226) (rn := 24) (σ := s13) (w := 1) (by decide) (by rw [f13 44 (by decide) (by decide), f12 44 (by decide) (by decide), f11 44 (by decide) (by decide), f10 44 (by decide) (by decide), f9 44 (by decide) (by decide), f8 44 (by decide) (by decide), f7 44 (by decide) (by decide), f6 44 (by decide) (by decide), f5 44 (by decide) (by decide), f4 44 (by decide) (by decide), f3 44 (by decide) (by decide), f2 44 (by decide) (by decide), f1 44 (by decide) (by decide)]; exact a27) (by rw [f13 226 (by decide) (by decide), f12 226 (by decide) (by decide), f11 226 (by decide) (by decide), f10 226 (by decide) (by decide), f9 226 (by decide) (by decide), f8 226 (by decide) (by decide), f7 226 (by decide) (by decide), f6 226 (by decide) (by decide), f5 226 (by decide) (by decide), f4 226 (by decide) (by decide), f3 226 (by decide) (by decide), f2 226 (by decide) (by decide), f1 226 (by decide) (by decide)]; exact b27) (by rw [f13 226 (by decide) (by decide), f12 226 (by decide) (by decide), f11 226 (by decide) (by decide), f10 226 (by decide) (by decide), f9 226 (by decide) (by decide), f8 226 (by decide) (by decide), f7 226 (by decide) (by decide), f6 226 (by decide) (by decide), f5 226 (by decide) (by decide), f4 226 (by decide) (by decide), f3 226 (by decide) (by decide), f2 226 (by decide) (by decide), f1 226 (by decide) (by decide)]; exact l27) (by decide)
  rw [show fX6_copyFrom 44 45 24 226 227 24 s13 = some (0, s14) from e14, bnd_some]
  obtain ⟨s15, e15, f15, c15⟩ := row_copy (ro := 46) (r2 := 228) (rn := 8) (σ := s14) (w := 1) (by decide) (by rw [f14 46 (by decide) (by decide), f13 46 (by decide) (by decide), f12 46 (by decide) (by decide), f11 46 (by decide) (by decide), f10 46 (by decide) (by decide), f9 46 (by decide) (by decide), f8 46 (by decide) (by decide), f7 46 (by decide) (by decide), f6 46 (by decide) (by decide), f5 46 (by decide) (by decide), f4 46 (by decide) (by decide), f3 46 (by decide) (by decide), f2 46 (by decide) (by decide), f1 46 (by decide) (by decide)]; exact a29) (by rw [f14 228 (by decide) (by decide), f13 228 (by decide) (by decide), f12 228 (by decide) (by decide), f11 228 (by decide) (by decide), f10 228 (by decide) (by decide), f9 228 (by decide) (by decide), f8 228 (by decide) (by decide), f7 228 (by decide) (by decide), f6 228 (by decide) (by decide), f5 228 (by decide) (by decide), f4 228 (by decide) (by decide), f3 228 (by decide) (by decide), f2 228 (by decide) (by decide), f1 228 (by decide) (by decide)]; exact b29) (by rw [f14 228 (by decide) (by decide), f13 228 (by decide) (by decide), f12 228 (by decide) (by decide), f11 228 (by decide) (by decide), f10 228 (by decide) (by decide), f9 228 (by decide) (by decide), f8 228 (by decide) (by decide), f7 228 (by decide) (by decide), f6 228 (by decide) (by decide), f5 228 (by decide) (by decide), f4 228 (by decide) (by decide), f3 228 (by decide) (by decide), f2 228 (by decide) (by decide), f1 228 (by decide) (by decide)]; exact l29) (by decide)
  rw [show fX6_copyFrom 46 47 8 228 229 8 s14 = some (0, s15) from e15, bnd_some]
  obtain ⟨s16, e16, f16, c16⟩ := row_copy (ro := 48) (r2 := 230) (rn := 16) (σ := s15) (w := 2) (by decide) (by rw [f15 48 (by decide) (by decide), f14 48 (by decide) (by decide), f13 48 (by decide) (by decide), f12 48 (by decide) (by decide), f11 48 (by decide) (by decide), f10 48 (by decide) (by decide), f9 48 (by decide) (by decide), f8 48 (by decide) (by decide), f7 48 (by decide) (by decide), f6 48 (by decide) (by decide), f5 48 (by decide) (by decide), f4 48 (by decide) (by decide), f3 48 (by decide) (by decide), f2 48 (by decide) (by decide), f1 48 (by decide) (by decide)]; exact a31) (by rw [f15 230 (by decide) (by decide), f14 230 (by decide) (by decide), f13 230 (by decide) (by decide), f12 230 (by decide) (by decide), f11 230 (by decide) (by decide), f10 230 (by decide) (by decide), f9 230 (by decide) (by decide), f8 230 (by decide) (by decide), f7 230 (by decide) (by decide), f6 230 (by decide) (by decide), f5 230 (by decide) (by decide), f4 230 (by decide) (by decide), f3 230 (by decide) (by decide), f2 230 (by decide) (by decide), f1 230 (by decide) (by decide)]; exact b31) (by rw [f15 230 (by decide) (by decide), f14 230 (by decide) (by decide), f13 230 (by decide) (by decide), f12 230 (by decide) (by decide), f11 230 (by decide) (by decide), f10 230 (by decide) (by decide), f9 230 (by decide) (by decide), f8 230 (by decide) (by decide), f7 230 (by decide) (by decide), f6 230 (by decide) (by decide), f5 230 (by decide) (by decide), f4 230 (by decide) (by decide), f3 230 (by decide) (by decide), f2 230 (by decide) (by decide), f1 230 (by decide) (by decide)]; exact l31) (by decide)
  rw [show fX6_copyFrom 48 49 16 230 231 16 s15 = some (0, s16) from e16, bnd_some]
  refine ⟨s16, rfl, fun k hk => ?_, ?_, ?_, ?_, ?_, ?_, ?_, ?_, ?_, ?_, ?_, ?_, ?_, ?_, ?_, ?_, ?_⟩
  · rw [f16 k (by omega) (by omega), f15 k (by omega) (by omega), f14 k (by omega) (by omega), f13 k (by omega) (by omega), f12 k (by omega) (by omega), f11 k (by omega) (by omega), f10 k (by omega) (by omega), f9 k (by omega) (by omega), f8 k (by omega) (by omega), f7 k (by omega) (by omega), f6 k (by omega) (by omega), f5 k (by omega) (by omega), f4 k (by omega) (by omega), f3 k (by omega) (by omega), f2 k (by omega) (by omega), f1 k (by omega) (by omega)]
  · obtain ⟨z1, z2, z3⟩ := c1
    simp only [Nat.reduceAdd] at z3
    have x : s16 18 = s1 18 := by rw [f16 18 (by decide) (by decide), f15 18 (by decide) (by decide), f14 18 (by decide) (by decide), f13 18 (by decide) (by decide), f12 18 (by decide) (by decide), f11 18 (by decide) (by decide), f10 18 (by decide) (by decide), f9 18 (by decide) (by decide), f8 18 (by decide) (by decide), f7 18 (by decide) (by decide), f6 18 (by decide) (by decide), f5 18 (by decide) (by decide), f4 18 (by decide) (by decide), f3 18 (by decide) (by decide), f2 18 (by decide) (by decide)]
    have x1 : s16 19 = s1 19 := by rw [f16 19 (by decide) (by decide), f15 19 (by decide) (by decide), f14 19 (by decide) (by decide), f13 19 (by decide) (by decide), f12 19 (by decide) (by decide), f11 19 (by decide) (by decide), f10 19 (by decide) (by decide), f9 19 (by decide) (by decide), f8 19 (by decide) (by decide), f7 19 (by decide) (by decide), f6 19 (by decide) (by decide), f5 19 (by decide) (by decide), f4 19 (by decide) (by decide), f3 19 (by decide) (by decide), f2 19 (by decide) (by decide)]
    refine ⟨by rw [x]; exact z1, by rw [x]; exact z2, ?_⟩
    simp only [Nat.reduceAdd]
    rw [x1]
    exact z3
  · obtain ⟨z1, z2, z3⟩ := c2
    have y : s1 202 = σ 202 := by rw [f1 202 (by decide) (by decide)]
    have y1 : s1 203 = σ 203 := by rw [f1 203 (by decide) (by decide)]
    simp only [Nat.reduceAdd] at z3
    rw [y] at z1 z2 z3
    rw [y1] at z3
    have x : s16 20 = s2 20 := by rw [f16 20 (by decide) (by decide), f15 20 (by decide) (by decide), f14 20 (by decide) (by decide), f13 20 (by decide) (by decide), f12 20 (by decide) (by decide), f11 20 (by decide) (by decide), f10 20 (by decide) (by decide), f9 20 (by decide) (by decide), f8 20 (by decide) (by decide), f7 20 (by decide) (by decide), f6 20 (by decide) (by decide), f5 20 (by decide) (by decide), f4 20 (by decide) (by decide), f3 20 (by decide) (by decide)]
    have x1 : s16 21 = s2 21 := by rw [f16 21 (by decide) (by decide), f15 21 (by decide) (by decide), f14 21 (by decide) (by decide), f13 21 (by decide) (by decide), f12 21 (by decide) (by decide), f11 21 (by decide) (by decide), f10 21 (by decide) (by decide), f9 21 (by decide) (by decide), f8 21 (by decide) (by decide), f7 21 (by decide) (by decide), f6 21 (by decide) (by decide), f5 21 (by decide) (by decide), f4 21 (by decide) (by decide), f3 21 (by decide) (by decide)]
    refine ⟨by rw [x]; exact z1, by rw [x]; exact z2, ?_⟩
    simp only [Nat.reduceAdd]
    rw [x1]
    exact z3
  · obtain ⟨z1, z2, z3⟩ := c3
    have y : s2 204 = σ 204 := by rw [f2 204 (by decide) (by decide), f1 204 (by decide) (by decide)]
    have y1 : s2 205 = σ 205 := by rw [f2 205 (by decide) (by decide), f1 205 (by decide) (by decide)]
    simp only [Nat.reduceAdd] at z3
    rw [y] at z1 z2 z3
    rw [y1] at z3
    have x : s16 22 = s3 22 := by rw [f16 22 (by decide) (by decide), f15 22 (by decide) (by decide), f14 22 (by decide) (by decide), f13 22 (by decide) (by decide), f12 22 (by decide) (by decide), f11 22 (by decide) (by decide), f10 22 (by decide) (by decide), f9 22 (by decide) (by decide), f8 22 (by decide) (by decide), f7 22 (by decide) (by decide), f6 22 (by decide) (by decide), f5 22 (by decide) (by decide), f4 22 (by decide) (by decide)]
    have x1 : s16 23 = s3 23 := by rw [f16 23 (by decide) (by decide), f15 23 (by decide) (by decide), f14 23 (by decide) (by decide), f13 23 (by decide) (by decide), f12 23 (by decide) (by decide), f11 23 (by decide) (by decide), f10 23 (by decide) (by decide), f9 23 (by decide) (by decide), f8 23 (by decide) (by decide), f7 23 (by decide) (by decide), f6 23 (by decide) (by decide), f5 23 (by decide) (by decide), f4 23 (by decide) (by decide)]
    refine ⟨by rw [x]; exact z1, by rw [x]; exact z2, ?_⟩
    simp only [Nat.reduceAdd]
    rw [x1]
    exact z3
  · obtain ⟨z1, z2, z3⟩ := c4
    have y : s3 206 = σ 206 := by rw [f3 206 (by decide) (by decide), f2 206 (by decide) (by decide), f1 206 (by decide) (by decide)]
    have y1 : s3 207 = σ 207 := by rw [f3 207 (by decide) (by decide), f2 207 (by decide) (by decide), f1 207 (by decide) (by decide)]
    simp only [Nat.reduceAdd] at z3
    rw [y] at z1 z2 z3
    rw [y1] at z3
    have x : s16 24 = s4 24 := by rw [f16 24 (by decide) (by decide), f15 24 (by decide) (by decide), f14 24 (by decide) (by decide), f13 24 (by decide) (by decide), f12 24 (by decide) (by decide), f11 24 (by decide) (by decide), f10 24 (by decide) (by decide), f9 24 (by decide) (by decide), f8 24 (by decide) (by decide), f7 24 (by decide) (by decide), f6 24 (by decide) (by decide), f5 24 (by decide) (by decide)]
    have x1 : s16 25 = s4 25 := by rw [f16 25 (by decide) (by decide), f15 25 (by decide) (by decide), f14 25 (by decide) (by decide), f13 25 (by decide) (by decide), f12 25 (by decide) (by decide), f11 25 (by decide) (by decide), f10 25 (by decide) (by decide), f9 25 (by decide) (by decide), f8 25 (by decide) (by decide), f7 25 (by decide) (by decide), f6 25 (by decide) (by decide), f5 25 (by decide) (by decide)]
    refine ⟨by rw [x]; exact z1, by rw [x]; exact z2, ?_⟩
    simp only [Nat.reduceAdd]
    rw [x1]
    exact z3
  · obtain ⟨z1, z2, z3⟩ := c5
    have y : s4 208 = σ 208 := by rw [f4 208 (by decide) (by decide), f3 208 (by decide) (by decide), f2 208 (by decide) (by decide), f1 208 (by decide) (by decide)]
    have y1 : s4 209 = σ 209 := by rw [f4 209 (by decide) (by decide), f3 209 (by decide) (by decide), f2 209 (by decide) (by decide), f1 209 (by decide) (by decide)]
    simp only [Nat.reduceAdd] at z3
    rw [y] at z1 z2 z3
    rw [y1] at z3
    have x : s16 26 = s5 26 := by rw [f16 26 (by decide) (by decide), f15 26 (by decide) (by decide), f14 26 (by decide) (by decide), f13 26 (by decide) (by decide), f12 26 (by decide) (by decide), f11 26 (by decide) (by decide), f10 26 (by decide) (by decide), f9 26 (by decide) (by decide), f8 26 (by decide) (by decide), f7 26 (by decide) (by decide), f6 26 (by decide) (by decide)]
    have x1 : s16 27 = s5 27 := by rw [f16 27 (by decide) (by decide), f15 27 (by decide) (by decide), f14 27 (by decide) (by decide), f13 27 (by decide) (by decide), f12 27 (by decide) (by decide), f11 27 (by decide) (by decide), f10 27 (by decide) (by decide), f9 27 (by decide) (by decide), f8 27 (by decide) (by decide), f7 27 (by decide) (by decide), f6 27 (by decide) (by decide)]
    refine ⟨by rw [x]; exact z1, by rw [x]; exact z2, ?_⟩
    simp only [Nat.reduceAdd]
    rw [x1]
    exact z3
  · obtain ⟨z1, z2, z3⟩ := c6
    have y : s5 210 = σ 210 := by rw [f5 210 (by decide) (by decide), f4 210 (by decide) (by decide), f3 210 (by decide) (by decide), f2 210 (by decide) (by decide), f1 210 (by decide) (by decide)]
    have y1 : s5 211 = σ 211 := by rw [f5 211 (by decide) (by decide), f4 211 (by decide) (by decide), f3 211 (by decide) (by decide), f2 211 (by decide) (by decide), f1 211 (by decide) (by decide)]
    simp only [Nat.reduceAdd] at z3
    rw [y] at z1 z2 z3
    rw [y1] at z3
    have x : s16 28 = s6 28 := by rw [f16 28 (by decide) (by decide), f15 28 (by decide) (by decide), f14 28 (by decide) (by decide), f13 28 (by decide) (by decide), f12 28 (by decide) (by decide), f11 28 (by decide) (by decide), f10 28 (by decide) (by decide), f9 28 (by decide) (by decide), f8 28 (by decide) (by decide), f7 28 (by decide) (by decide)]
    have x1 : s16 29 = s6 29 := by rw [f16 29 (by decide) (by decide), f15 29 (by decide) (by decide), f14 29 (by decide) (by decide), f13 29 (by decide) (by decide), f12 29 (by decide) (by decide), f11 29 (by decide) (by decide), f10 29 (by decide) (by decide), f9 29 (by decide) (by decide), f8 29 (by decide) (by decide), f7 29 (by decide) (by decide)]
    refine ⟨by rw [x]; exact z1, by rw [x]; exact z2, ?_⟩
    simp only [Nat.reduceAdd]
    rw [x1]
    exact z3
  · obtain ⟨z1, z2, z3⟩ := c7
    have y : s6 212 = σ 212 := by rw [f6 212 (by decide) (by decide), f5 212 (by decide) (by decide), f4 212 (by decide) (by decide), f3 212 (by decide) (by decide), f2 212 (by decide) (by decide), f1 212 (by decide) (by decide)]
    have y1 : s6 213 = σ 213 := by rw [f6 213 (by decide) (by decide), f5 213 (by decide) (by decide), f4 213 (by decide) (by decide), f3 213 (by decide) (by decide), f2 213 (by decide) (by decide), f1 213 (by decide) (by decide)]
    simp only [Nat.reduceAdd] at z3
    rw [y] at z1 z2 z3
    rw [y1] at z3
    have x : s16 30 = s7 30 := by rw [f16 30 (by decide) (by decide), f15 30 (by decide) (by decide), f14 30 (by decide) (by decide), f13 30 (by decide) (by decide), f12 30 (by decide) (by decide), f11 30 (by decide) (by decide), f10 30 (by decide) (by decide), f9 30 (by decide) (by decide), f8 30 (by decide) (by decide)]
    have x1 : s16 31 = s7 31 := by rw [f16 31 (by decide) (by decide), f15 31 (by decide) (by decide), f14 31 (by decide) (by decide), f13 31 (by decide) (by decide), f12 31 (by decide) (by decide), f11 31 (by decide) (by decide), f10 31 (by decide) (by decide), f9 31 (by decide) (by decide), f8 31 (by decide) (by decide)]
    refine ⟨by rw [x]; exact z1, by rw [x]; exact z2, ?_⟩
    simp only [Nat.reduceAdd]
    rw [x1]
    exact z3
  · obtain ⟨z1, z2, z3⟩ := c8
    have y : s7 214 = σ 214 := by rw [f7 214 (by decide) (by decide), f6 214 (by decide) (by decide), f5 214 (by decide) (by decide), f4 214 (by decide) (by decide), f3 214 (by decide) (by decide), f2 214 (by decide) (by decide), f1 214 (by decide) (by decide)]
    have y1 : s7 215 = σ 215 := by rw [f7 215 (by decide) (by decide), f6 215 (by decide) (by decide), f5 215 (by decide) (by decide), f4 215 (by decide) (by decide), f3 215 (by decide) (by decide), f2 215 (by decide) (by decide), f1 215 (by decide) (by decide)]
    simp only [Nat.reduceAdd] at z3
    rw [y] at z1 z2 z3
    rw [y1] at z3
    have x : s16 32 = s8 32 := by rw [f16 32 (by decide) (by decide), f15 32 (by decide) (by decide), f14 32 (by decide) (by decide), f13 32 (by decide) (by decide), f12 32 (by decide) (by decide), f11 32 (by decide) (by decide), f10 32 (by decide) (by decide), f9 32 (by decide) (by decide)]
    have x1 : s16 33 = s8 33 := by rw [f16 33 (by decide) (by decide), f15 33 (by decide) (by decide), f14 33 (by decide) (by decide), f13 33 (by decide) (by decide), f12 33 (by decide) (by decide), f11 33 (by decide) (by decide), f10 33 (by decide) (by decide), f9 33 (by decide) (by decide)]
    refine ⟨by rw [x]; exact z1, by rw [x]; exact z2, ?_⟩
    simp only [Nat.reduceAdd]
    rw [x1]
    exact z3
  · obtain ⟨z1, z2, z3⟩ := c9
    have y : s8 216 = σ 216 := by rw [f8 216 (by decide) (by decide), f7 216 (by decide) (by decide), f6 216 (by decide) (by decide), f5 216 (by decide) (by decide), f4 216 (by decide) (by decide), f3 216 (by decide) (by decide), f2 216 (by decide) (by decide), f1 216 (by decide) (by decide)]
    have y1 : s8 217 = σ 217 := by rw [f8 217 (by decide) (by decide), f7 217 (by decide) (by decide), f6 217 (by decide) (by decide), f5 217 (by decide) (by decide), f4 217 (by decide) (by decide), f3 217 (by decide) (by decide), f2 217 (by decide) (by decide), f1 217 (by decide) (by decide)]
    simp only [Nat.reduceAdd] at z3
    rw [y] at z1 z2 z3
    rw [y1] at z3
    have x : s16 34 = s9 34 := by rw [f16 34 (by decide) (by decide), f15 34 (by decide) (by decide), f14 34 (by decide) (by decide), f13 34 (by decide) (by decide), f12 34 (by decide) (by decide), f11 34 (by decide) (by decide), f10 34 (by decide) (by decide)]
    have x1 : s16 35 = s9 35 := by rw [f16 35 (by decide) (by decide), f15 35 (by decide) (by decide), f14 35 (by decide) (by decide), f13 35 (by decide) (by decide), f12 35 (by decide) (by decide), f11 35 (by decide) (by decide), f10 35 (by decide) (by decide)]
    refine ⟨by rw [x]; exact z1, by rw [x]; exact z2, ?_⟩
    simp only [Nat.reduceAdd]
    rw [x1]
    exact z3
  · obtain ⟨z1, z2, z3⟩ := c10
    have y : s9 218 = σ 218 := by rw [f9 218 (by decide) (by decide), f8 218 (by decide) (by decide), f7 218 (by decide) (by decide), f6 218 (by decide) (by decide), f5 218 (by decide) (by decide), f4 218 (by decide) (by decide), f3 218 (by decide) (by decide), f2 218 (by decide) (by decide), f1 218 (by decide) (by decide)]
    have y1 : s9 219 = σ 219 := by rw [f9 219 (by decide) (by decide), f8 219 (by decide) (by decide), f7 219 (by decide) (by decide), f6 219 (by decide) (by decide), f5 219 (by decide) (by decide), f4 219 (by decide) (by decide), f3 219 (by decide) (by decide), f2 219 (by decide) (by decide), f1 219 (by decide) (by decide)]
    simp only [Nat.reduceAdd] at z3
    rw [y] at z1 z2 z3
    rw [y1] at z3
    have x : s16 36 = s10 36 := by rw [f16 36 (by decide) (by decide), f15 36 (by decide) (by decide), f14 36 (by decide) (by decide), f13 36 (by decide) (by decide), f12 36 (by decide) (by decide), f11 36 (by decide) (by decide)]
    have x1 : s16 37 = s10 37 := by rw [f16 37 (by decide) (by decide), f15 37 (by decide) (by decide), f14 37 (by decide) (by decide), f13 37 (by decide) (by decide), f12 37 (by decide) (by decide), f11 37 (by decide) (by decide)]
    refine ⟨by rw [x]; exact z1, by rw [x]; exact z2, ?_⟩
    simp only [Nat.reduceAdd]
    rw [x1]
    exact z3
  · obtain ⟨z1, z2, z3⟩ := c11
    have y : s10 220 = σ 220 := by rw [f10 220 (by decide) (by decide), f9 220 (by decide) (by decide), f8 220 (by decide) (by decide), f7 220 (by decide) (by decide), f6 220 (by decide) (by decide), f5 220 (by decide) (by decide), f4 220 (by decide) (by decide), f3 220 (by decide) (by decide), f2 220 (by decide) (by decide), f1 220 (by decide) (by decide)]
    have y1 : s10 221 = σ 221 := by rw [f10 221 (by decide) (by decide), f9 221 (by decide) (by decide), f8 221 (by decide) (by decide), f7 221 (by decide) (by decide), f6 221 (by decide) (by decide), f5 221 (by decide) (by decide), f4 221 (by decide) (by decide), f3 221 (by decide) (by decide), f2 221 (by decide) (by decide), f1 221 (by decide) (by decide)]
    simp only [Nat.reduceAdd] at z3
    rw [y] at z1 z2 z3
    rw [y1] at z3
    have x : s16 38 = s11 38 := by rw [f16 38 (by decide) (by decide), f15 38 (by decide) (by decide), f14 38 (by decide) (by decide), f13 38 (by decide) (by decide), f12 38 (by decide) (by decide)]
    have x1 : s16 39 = s11 39 := by rw [f16 39 (by decide) (by decide), f15 39 (by decide) (by decide), f14 39 (by decide) (by decide), f13 39 (by decide) (by decide), f12 39 (by decide) (by decide)]
    refine ⟨by rw [x]; exact z1, by rw [x]; exact z2, ?_⟩
    simp only [Nat.reduceAdd]
    rw [x1]
    exact z3
  · obtain ⟨z1, z2, z3⟩ := c12
    have y : s11 222 = σ 222 := by rw [f11 222 (by decide) (by decide), f10 222 (by decide) (by decide), f9 222 (by decide) (by decide), f8 222 (by decide) (by decide), f7 222 (by decide) (by decide), f6 222 (by decide) (by decide), f5 222 (by decide) (by decide), f4 222 (by decide) (by decide), f3 222 (by decide) (by decide), f2 222 (by decide) (by decide), f1 222 (by decide) (by decide)]
    have y1 : s11 223 = σ 223 := by rw [f11 223 (by decide) (by decide), f10 223 (by decide) (by decide), f9 223 (by decide) (by decide), f8 223 (by decide) (by decide), f7 223 (by decide) (by decide), f6 223 (by decide) (by decide), f5 223 (by decide) (by decide), f4 223 (by decide) (by decide), f3 223 (by decide) (by decide), f2 223 (by decide) (by decide), f1 223 (by decide) (by decide)]
    simp only [Nat.reduceAdd] at z3
    rw [y] at z1 z2 z3
    rw [y1] at z3
    have x : s16 40 = s12 40 := by rw [f16 40 (by decide) (by decide), f15 40 (by decide) (by decide), f14 40 (by decide) (by decide), f13 40 (by decide) (by decide)]
    have x1 : s16 41 = s12 41 := by rw [f16 41 (by decide) (by decide), f15 41 (by decide) (by decide), f14 41 (by decide) (by decide), f13 41 (by decide) (by decide)]
    refine ⟨by rw [x]; exact z1, by rw [x]; exact z2, ?_⟩
    simp only [Nat.reduceAdd]
    rw [x1]
    exact z3
  · obtain ⟨z1, z2, z3⟩ := c13
    have y : s12 224 = σ 224 := by rw [f12 224 (by decide) (by decide), f11 224 (by decide) (by decide), f10 224 (by decide) (by decide), f9 224 (by decide) (by decide), f8 224 (by decide) (by decide), f7 224 (by decide) (by decide), f6 224 (by decide) (by decide), f5 224 (by decide) (by decide), f4 224 (by decide) (by decide), f3 224 (by decide) (by decide), f2 224 (by decide) (by decide), f1 224 (by decide) (by decide)]
    have y1 : s12 225 = σ 225 := by rw [f12 225 (by decide) (by decide), f11 225 (by decide) (by decide), f10 225 (by decide) (by decide), f9 225 (by decide) (by decide), f8 225 (by decide) (by decide), f7 225 (by decide) (by decide), f6 225 (by decide) (by decide), f5 225 (by decide) (by decide), f4 225 (by decide) (by decide), f3 225 (by decide) (by decide), f2 225 (by decide) (by decide), f1 225 (by decide) (by decide)]
    simp only [Nat.reduceAdd] at z3
    rw [y] at z1 z2 z3
    rw [y1] at z3
    have x : s16 42 = s13 42 := by rw [f16 42 (by decide) (by decide), f15 42 (by decide) (by decide), f14 42 (by decide) (by decide)]
    have x1 : s16 43 = s13 43 := by rw [f16 43 (by decide) (by decide), f15 43 (by decide) (by decide), f14 43 (by decide) (by decide)]
    refine ⟨by rw [x]; exact z1, by rw [x]; exact z2, ?_⟩
    simp only [Nat.reduceAdd]
    rw [x1]
    exact z3
  · obtain ⟨z1, z2, z3⟩ := c14
    have y : s13 226 = σ 226 := by rw [f13 226 (by decide) (by decide), f12 226 (by decide) (by decide), f11 226 (by decide) (by decide), f10 226 (by decide) (by decide), f9 226 (by decide) (by decide), f8 226 (by decide) (by decide), f7 226 (by decide) (by decide), f6 226 (by decide) (by decide), f5 226 (by decide) (by decide), f4 226 (by decide) (by decide), f3 226 (by decide) (by decide), f2 226 (by decide) (by decide), f1 226 (by decide) (by decide)]
    have y1 : s13 227 = σ 227 := by rw [f13 227 (by decide) (by decide), f12 227 (by decide) (by decide), f11 227 (by decide) (by decide), f10 227 (by decide) (by decide), f9 227 (by decide) (by decide), f8 227 (by decide) (by decide), f7 227 (by decide) (by decide), f6 227 (by decide) (by decide), f5 227 (by decide) (by decide), f4 227 (by decide) (by decide), f3 227 (by decide) (by decide), f2 227 (by decide) (by decide), f1 227 (by decide) (by decide)]
    simp only [Nat.reduceAdd] at z3
    rw [y] at z1 z2 z3
    rw [y1] at z3
    have x : s16 44 = s14 44 := by rw [f16 44 (by decide) (by decide), f15 44 (by decide) (by decide)]
    have x1 : s16 45 = s14 45 := by rw [f16 45 (by decide) (by decide), f15 45 (by decide) (by decide)]
    refine ⟨by rw [x]; exact z1, by rw [x]; exact z2, ?_⟩
    simp only [Nat.reduceAdd]
    rw [x1]
    exact z3
  · obtain ⟨z1, z2, z3⟩ := c15
    have y : s14 228 = σ 228 := by rw [f14 228 (by decide) (by decide), f13 228 (by decide) (by decide), f12 228 (by decide) (by decide), f11 228 (by decide) (by decide), f10 228 (by decide) (by decide), f9 228 (by decide) (by decide), f8 228 (by decide) (by decide), f7 228 (by decide) (by decide), f6 228 (by decide) (by decide), f5 228 (by decide) (by decide), f4 228 (by decide) (by decide), f3 228 (by decide) (by decide), f2 228 (by decide) (by decide), f1 228 (by decide) (by decide)]
    have y1 : s14 229 = σ 229 := by rw [f14 229 (by decide) (by decide), f13 229 (by decide) (by decide), f12 229 (by decide) (by decide), f11 229 (by decide) (by decide), f10 229 (by decide) (by decide), f9 229 (by decide) (by decide), f8 229 (by decide) (by decide), f7 229 (by decide) (by decide), f6 229 (by decide) (by decide), f5 229 (by decide) (by decide), f4 229 (by decide) (by decide), f3 229 (by decide) (by decide), f2 229 (by decide) (by decide), f1 229 (by decide) (by decide)]
    simp only [Nat.reduceAdd] at z3
    rw [y] at z1 z2 z3
    rw [y1] at z3
    have x : s16 46 = s15 46 := by rw [f16 46 (by decide) (by decide)]
    have x1 : s16 47 = s15 47 := by rw [f16 47 (by decide) (by decide)]
    refine ⟨by rw [x]; exact z1, by rw [x]; exact z2, ?_⟩
    simp only [Nat.reduceAdd]
    rw [x1]
    exact z3
  · obtain ⟨z1, z2, z3⟩ := c16
    have y : s15 230 = σ 230 := by rw [f15 230 (by decide) (by decide), f14 230 (by decide) (by decide), f13 230 (by decide) (by decide), f12 230 (by decide) (by decide), f11 230 (by decide) (by decide), f10 230 (by decide) (by decide), f9 230 (by decide) (by decide), f8 230 (by decide) (by decide), f7 230 (by decide) (by decide), f6 230 (by decide) (by decide), f5 230 (by decide) (by decide), f4 230 (by decide) (by decide), f3 230 (by decide) (by decide), f2 230 (by decide) (by decide), f1 230 (by decide) (by decide)]
    have y1 : s15 231 = σ 231 := by rw [f15 231 (by decide) (by decide), f14 231 (by decide) (by decide), f13 231 (by decide) (by decide), f12 231 (by decide) (by decide), f11 231 (by decide) (by decide), f10 231 (by decide) (by decide), f9 231 (by decide) (by decide), f8 231 (by decide) (by decide), f7 231 (by decide) (by decide), f6 231 (by decide) (by decide), f5 231 (by decide) (by decide), f4 231 (by decide) (by decide), f3 231 (by decide) (by decide), f2 231 (by decide) (by decide), f1 231 (by decide) (by decide)]
    simp only [Nat.reduceAdd] at z3
    rw [y] at z1 z2 z3
    rw [y1] at z3
    exact ⟨z1, z2, z3⟩
