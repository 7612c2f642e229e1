/-! IMAGE: both sides -/
def iR : List Nat := 0 :: (List.range 49).map (fun k => 185 + k)
def bR : List Nat := (List.range 14).map (fun k => 3 + k) ++ (List.range 35).map (fun k => 18 + k)
theorem RU.cv {σ σ' τ t : St} (h : RU σ τ) (e52 : σ' 52 = σ 52) (e54 : σ' 54 = σ 54) (ex : ∀ k, 55 ≤ k → k ≤ 138 → σ' k = σ k) (e3 : t 0 3 = τ 0 3) (e2 : t 2 = τ 2) (e13 : t 1 3 = τ 1 3) (v : VC τ t) : RU σ' t := by
  obtain ⟨h1, h2⟩ := h
  refine ⟨by rw [e52, e3]; exact h1, fun j j0 j1 => ?_⟩
  rw [e3] at j1
  obtain ⟨r1, r2⟩ := h2 j j0 j1
  rw [e52, e54, e3, e2, e13]
  have b := hk_bd (v := (σ 52 3 - τ 0 3 + j) % 6) (by omega)
  refine ⟨r1.cv (HC.same fun k k0 k1 => ex k (by omega) (by omega)) (fun c i hm => ?_), r2⟩
  show (if c = 1 then t 2 (161 * j + i) else t c i) = if c = 1 then τ 2 (161 * j + i) else τ c i
  by_cases z : c = 1
  · rw [if_pos z, if_pos z, e2]
  · rw [if_neg z, if_neg z]
    exact v c i hm
theorem s_image {σ τ : St} (h : Rl σ τ) {p1 : Int} (hp : p1 = 0 ∨ p1 = 1) : Sim (fX11_image p1 σ) (fX12_image p1 τ) := by
  show Ok2 _ _ fun r σ' r' τ' => r' = r ∧ Rl σ' τ'
  have h0 : Rl σ (up τ 0 0 0) := h.work Fr.rf (Fm.rf.u0 (by decide))
  obtain ⟨q1, q2, q3, qw⟩ := h0.c_RI
  rcases hp with rfl | rfl
  · by_cases z : σ 0 14 = 0
    · unfold fX11_image fX12_image
      have z2 : up τ 0 0 0 0 84 = 0 := by rw [← q2]; exact z
      rw [if_pos rfl, fld_eq, if_pos z, put_eq, if_pos rfl, fld_eq, if_pos z2, bnx_inr, ok2_some]
      exact ⟨rfl, h0⟩
    · have z1 : σ 0 14 = 1 := by omega
      obtain ⟨σ', e1, fr, c2, c3, hc, ta, td⟩ := c_back h0 z1
      have z84 : up τ 0 0 0 0 84 = 1 := by rw [← q2]; exact z1
      have z84' : τ 0 84 ≠ 0 := by
        have : up τ 0 0 0 0 84 = τ 0 84 := rfl
        omega
      rw [e1]
      refine ok2_left (ok_mono (m_image (Or.inl rfl) fun _ => z84') ?_)
      rintro r _ ⟨rfl, t, hI, rfl⟩
      refine ⟨rfl, ?_⟩
      rw [if_pos rfl]
      have eH : imH (up τ 0 0 0) 0 = up (up (up τ 0 0 0) 0 83 0) 0 85 0 := by
        unfold imH
        rw [up_self (k := 0) (i := 84) (show up (up τ 0 0 0) 0 83 0 0 84 = 1 from z84)]
      rw [eH] at hI
      generalize up τ 0 0 0 = τ0 at *
      obtain ⟨_, hf, hz, _⟩ := hI
      obtain ⟨g56, gc⟩ := hz rfl
      have f0 : Fm (56 :: imC) (3 :: 83 :: 85 :: imJ) τ0 (up t 0 3 0) := (((Fm.rf.u0 (by decide)).u0 (by decide)).tr (hf.mono (by decide) (by decide))).u0 (by decide)
      have e56 : (up t 0 3 0) 56 = τ0 56 := g56
      have f1 : Fm imC (3 :: 83 :: 85 :: imJ) τ0 (up t 0 3 0) := ⟨fun k k0 kc => by
        by_cases e : k = 56
        · rw [e]; exact e56
        · exact f0.1 k k0 fun hm => by
            rcases List.mem_cons.mp hm with x | x
            · exact e x
            · exact kc x, f0.2⟩
      have v : VC (iV τ0) (up t 0 3 0) := fun c i hm => by
        have b := (qC_ipos hm).2
        have a := gc c i hm
        rw [if_pos (by omega)] at a
        have n3 : ¬ (c = 0 ∧ i = 3) := by
          rintro ⟨rfl, rfl⟩
          rcases hm with x | x | x | x | x | x | x | x | x | x | x | x <;> omega
        rw [up_g, if_neg n3, a]
        rfl
      have fx : Fr bR σ σ' := fun k hkc => fr k (fun x => hkc (by unfold bR; simp only [List.mem_append, List.mem_map, List.mem_range]; exact Or.inl ⟨k - 3, by omega, by omega⟩)) (fun x => hkc (by unfold bR; simp only [List.mem_append, List.mem_map, List.mem_range]; exact Or.inr ⟨k - 18, by omega, by omega⟩))
      obtain ⟨a1, a2, a3, a4, a5, a6, a7, a8, a9, a10, a11, a12, a13, a14, a15⟩ := (q3 z1).cv hc ta td v
      exact ⟨a1, a2, a3, a4, a5, a6, a7, a8, a9, a10, a11, a12, a13, a14, a15, RU.none c2 rfl (by rw [c3]; exact h0.c_RU.1.2.2.2), h0.c_RI.cg fx f1 (by decide), h0.c_RP.cg fx f1 (by decide), h0.c_RF.cg fx f1 (by decide), h0.c_RS.cg fx f1 (by decide)⟩
  · obtain ⟨σ', e1, fr, c14, hc, ta, td⟩ := c_take h0
    rw [e1]
    refine ok2_left (ok_mono (m_image (Or.inr rfl) fun x => absurd x (by decide)) ?_)
    rintro r t' ⟨rfl, t, hI, et⟩
    refine ⟨rfl, ?_⟩
    have et' : t = t' := et.symm
    subst et'
    generalize up τ 0 0 0 = τ0 at *
    obtain ⟨_, hf, _, hz⟩ := hI
    have gc := hz (by decide)
    have f0 : Fm (56 :: imC) (83 :: 84 :: 85 :: imJ) τ0 t := (((Fm.rf.u0 (by decide)).u0 (by decide)).u0 (by decide)).tr (hf.mono (by decide) (by decide))
    have hH : ∀ c i, ImC c i → imH τ0 1 c i = τ0 c i := fun c i hm => by
      have n : ¬ (c = 0 ∧ i = 85) ∧ ¬ (c = 0 ∧ i = 84) ∧ ¬ (c = 0 ∧ i = 83) := by
        refine ⟨?_, ?_, ?_⟩ <;> (rintro ⟨rfl, rfl⟩; rcases hm with x | x | x | x | x | x | x | x | x | x | x | x <;> omega)
      unfold imH
      rw [up_g, if_neg n.1, up_g, if_neg n.2.1, up_g, if_neg n.2.2]
    have v : VC τ0 t := fun c i hm => ((gc c i hm).1).trans (hH c i hm)
    have vi : VC τ0 (iV t) := fun c i hm => ((gc c i hm).2 (qC_ipos hm).2.2).trans (hH c i hm)
    have fx : Fr iR σ σ' := fun k hkc => fr k (fun x => hkc (by rw [x]; decide)) (fun x => hkc (by unfold iR; simp only [List.mem_cons, List.mem_map, List.mem_range]; exact Or.inr ⟨k - 185, by omega, by omega⟩))
    have sm : ∀ k, 1 ≤ k → k ≤ 184 → σ' k = σ k := fun k k0 k1 => fr k (by omega) (by omega)
    have cn := h0.core
    obtain ⟨a1, a2, a3, a4, a5, a6, a7, a8, a9, a10, a11, a12, a13, a14, a15⟩ := cn.cv (HC.same fun k k0 k1 => sm k (by omega) (by omega)) (TCa.same fun k k0 k1 => sm k (by omega) (by omega)) (TCr.same (sm 50 (by decide) (by decide)) (sm 51 (by decide) (by decide))) v
    have e84 : t 0 84 = 1 := by
      have a := hf.2 84 (by decide)
      rw [a]
      rfl
    obtain ⟨⟨x1, _⟩, ⟨x3, _⟩, ⟨x5, _⟩, ⟨x7, _⟩, ⟨x9, _⟩, ⟨x11, _⟩, ⟨x13, _⟩, ⟨x15, _⟩, ⟨x17, _⟩, ⟨x19, _⟩, ⟨x21, _⟩, ⟨x23, _⟩, ⟨x25, _⟩, ⟨x27, _⟩, ⟨x29, _⟩, ⟨x31, _⟩, ⟨xd, _⟩⟩ := cn.bd
    obtain ⟨t1, t3, t5, t7, t9, t11, t13, t15, t17, t19, t21, t23, t25, t27, t29, t31⟩ := ta
    have ri : RI σ' t := ⟨Or.inr c14, c14.trans e84.symm, fun _ => cn.cv hc ⟨t1, t3, t5, t7, t9, t11, t13, t15, t17, t19, t21, t23, t25, t27, t29, t31⟩ td vi, t1.1.trans x1, t3.1.trans x3, t5.1.trans x5, t7.1.trans x7, t9.1.trans x9, t11.1.trans x11, t13.1.trans x13, t15.1.trans x15, t17.1.trans x17, t19.1.trans x19, t21.1.trans x21, t23.1.trans x23, t25.1.trans x25, t27.1.trans x27, t29.1.trans x29, t31.1.trans x31, td.1.trans xd⟩
    exact ⟨a1, a2, a3, a4, a5, a6, a7, a8, a9, a10, a11, a12, a13, a14, a15, h0.c_RU.cv (sm 52 (by decide) (by decide)) (sm 54 (by decide) (by decide)) (fun k k0 k1 => sm k (by omega) (by omega)) (f0.2 3 (by decide)) (f0.1 2 (by decide) (by decide)) (v 1 3 (show (0 : Int) ≤ 3 ∧ (3 : Int) < 161 by decide)) v, ri, h0.c_RP.cg fx f0 (by decide), h0.c_RF.cg fx f0 (by decide), h0.c_RS.cg fx f0 (by decide)⟩
