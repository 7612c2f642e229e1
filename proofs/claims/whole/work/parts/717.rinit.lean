/-! THE LAW: the two worlds as they are made stand in the relation -/
def z0 : St := fun _ _ => 0
theorem i_m20 (i : Int) : sX12 z0 1 0 20 i = 0 := rfl
theorem i_m46 (i : Int) : sX12 z0 1 0 46 i = 0 := rfl
theorem i_m23 (i : Int) : sX12 z0 1 0 23 i = 0 := rfl
theorem i_m9 : ∀ n : Nat, n < 152 → sX12 z0 1 0 9 (n : Int) = wordsT.getD n 0 := by decide +kernel
theorem i_wish : ∀ n : Nat, n < 10 → sX11 z0 1 0 29 ((n : Int) * 5) = 0 ∧ sX11 z0 1 0 29 ((n : Int) * 5 + 1) = 1 ∧ sX11 z0 1 0 29 ((n : Int) * 5 + 2) = 2 ∧ sX11 z0 1 0 29 ((n : Int) * 5 + 3) = 3 ∧ sX11 z0 1 0 29 ((n : Int) * 5 + 4) = 4 := by decide +kernel
theorem i_bit : ∀ n : Nat, n < 8 → ¬ iand (ishr 0 (n : Int)) 1 = 1 := by decide +kernel
theorem i_n : sX12 z0 1 0 0 6 = 0 ∧ sX12 z0 1 0 0 7 = 0 ∧ sX12 z0 1 0 0 35 = 0 ∧ sX12 z0 1 0 0 37 = 0 ∧ sX12 z0 1 0 0 39 = 0 ∧ sX12 z0 1 0 0 49 = 0 ∧ sX12 z0 1 0 0 52 = 0 ∧ sX12 z0 1 0 0 58 = 0 ∧ sX12 z0 1 0 0 62 = 0 ∧ sX12 z0 1 0 0 64 = 0 ∧ sX12 z0 1 0 0 70 = 0 ∧ sX12 z0 1 0 0 72 = 0 ∧ sX12 z0 1 0 10 0 = 0 ∧ sX12 z0 1 0 1 3 = 0 ∧ sX12 z0 1 0 0 13 = 0 ∧ sX12 z0 1 0 42 0 = 0 ∧ sX12 z0 1 0 42 1 = 0 ∧ sX12 z0 1 0 42 2 = 0 := by decide +kernel
theorem s_init : Rl (sX11 z0 1 0) (sX12 z0 1 0) := by
  obtain ⟨n6, n7, n35, n37, n39, n49, n52, n58, n62, n64, n70, n72, n10, n13, n0, n420, n421, n422⟩ := i_n
  refine ⟨⟨by decide +kernel, by decide +kernel, fun i i0 i1 => ?_, fun i i0 i1 => ?_⟩, ⟨by decide +kernel, fun i i0 i1 => ?_, fun i i0 i1 => ?_⟩, ⟨by decide +kernel, fun i i0 i1 => ?_, fun i i0 i1 => ?_⟩, ⟨by decide +kernel, fun i i0 i1 => ?_⟩, ⟨by decide +kernel, fun i i0 i1 => ?_, fun a b a0 a1 b0 b1 => ?_⟩, ⟨by decide +kernel, by decide +kernel, fun w w0 w1 => ?_⟩, ⟨by decide +kernel, fun i i0 i1 => ?_⟩, ⟨by decide +kernel, fun i i0 i1 => ?_⟩, ⟨by decide +kernel, fun i i0 i1 => ?_⟩, ⟨by decide +kernel, fun i i0 i1 => ?_⟩, ⟨by decide +kernel, fun i i0 i1 => ?_⟩, ⟨⟨by decide +kernel, by decide +kernel, by decide +kernel, by decide +kernel, fun i i0 i1 => ?_⟩, ⟨by decide +kernel, by decide +kernel, by decide +kernel, by decide +kernel, fun i i0 i1 => ?_⟩, ⟨by decide +kernel, by decide +kernel, by decide +kernel, by decide +kernel, fun i i0 i1 => ?_⟩⟩, ⟨by decide +kernel, fun i i0 i1 => ?_⟩, ⟨by decide +kernel, fun i i0 i1 => ?_, fun a b a0 a1 b0 b1 => ?_⟩, ⟨by decide +kernel, fun i i0 i1 => ?_⟩, RU.none (by decide +kernel) (by decide +kernel) (by decide +kernel), ⟨by decide +kernel, by decide +kernel, fun q => ?_, by decide +kernel⟩, RP.none (by decide +kernel) n0, ⟨by decide +kernel, by decide +kernel⟩, ⟨by decide +kernel, fun i i0 i1 => ?_⟩⟩
  · rw [n6] at i1; omega
  · rw [n7] at i1; omega
  · rw [n10] at i1; omega
  · rw [show sX11 z0 1 0 (17 + 3) 2 = 0 by decide +kernel] at i1; omega
  · rw [n35] at i1; omega
  · rw [n35] at i1; omega
  · rw [n37] at i1; omega
  · rw [n39] at i1; omega
  · rw [i_m20, n39]; rfl
  · obtain ⟨n, rfl⟩ : ∃ n : Nat, w = n := ⟨w.toNat, by omega⟩
    obtain ⟨h0, h1, h2, h3, h4⟩ := i_wish n (by omega)
    simp only [Nat.reduceAdd]
    rw [h0, h1, h2, h3, h4, i_m23]
    exact ⟨by decide, by unfold isP; decide⟩
  · rw [n49] at i1; omega
  · rw [n52] at i1; omega
  · rw [n58] at i1; omega
  · rw [n62] at i1; omega
  · rw [n64] at i1; omega
  · rw [n420] at i1; omega
  · rw [n421] at i1; omega
  · rw [n422] at i1; omega
  · rw [n70] at i1; omega
  · rw [n72] at i1; omega
  · rw [i_m46, n72]
    obtain ⟨n, rfl⟩ : ∃ n : Nat, b = n := ⟨b.toNat, by omega⟩
    refine ⟨by decide, by decide, fun q => absurd q (i_bit n (by omega)), fun ⟨i, i0, i1, _⟩ => by omega⟩
  · rw [n13] at i1; omega
  · rw [show sX11 z0 1 0 0 14 = 0 by decide +kernel] at q; cases q
  · obtain ⟨n, rfl⟩ : ∃ n : Nat, i = n := ⟨i.toNat, by omega⟩
    rw [i_m9 n (by omega), Int.toNat_natCast]
