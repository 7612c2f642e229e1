/-! THE LAW: from its entry -/
theorem va_P.l {D : va_G} {cl : List vw_C} {w1 w2 : va_W} {H : Heap} (h : va_P D cl (w1 ++ w2) H) : va_P D cl w1 H := fun k q hk => h k q (by
  rw [List.getElem?_append_left (List.getElem?_eq_some_iff.mp hk).1]; exact hk)
theorem va_P.r {D : va_G} {cl : List vw_C} {w1 w2 : va_W} {H : Heap} (h : va_P D cl (w1 ++ w2) H) : va_P D cl w2 H := fun k q hk => h (w1.length + k) q (by
  rw [List.getElem?_append_right (by omega), show w1.length + k - w1.length = k by omega]; exact hk)
theorem va_D.two {A : Nat → Prop} {w1 w2 : va_W} (h1 : va_D A w1) (h2 : va_D A w2) (h : ∀ (i j : Nat) (p q : Nat × va_E), w1[i]? = some p → w2[j]? = some q → p.1 ≠ q.1) : va_D A (w1 ++ w2) := by
  have at' : ∀ (k : Nat) (q : Nat × va_E), (w1 ++ w2)[k]? = some q → (k < w1.length ∧ w1[k]? = some q) ∨ (w1.length ≤ k ∧ w2[k - w1.length]? = some q) := by
    intro k q hk
    by_cases g : k < w1.length
    · rw [List.getElem?_append_left g] at hk; exact Or.inl ⟨g, hk⟩
    · rw [List.getElem?_append_right (by omega)] at hk; exact Or.inr ⟨by omega, hk⟩
  refine ⟨fun i j p q hi hj e => ?_, fun k q hk => ?_⟩
  · rcases at' i p hi with ⟨a, a'⟩ | ⟨a, a'⟩ <;> rcases at' j q hj with ⟨b, b'⟩ | ⟨b, b'⟩
    · exact h1.1 i j p q a' b' e
    · exact absurd e (h _ _ p q a' b')
    · exact absurd e.symm (h _ _ q p b' a')
    · have := h2.1 _ _ p q a' b' e; omega
  · rcases at' k q hk with ⟨a, a'⟩ | ⟨a, a'⟩
    · exact h1.2 k q a'
    · exact h2.2 _ q a'
theorem lay_ad {S : List Kd} {G : Gw} {σ : St} {i : Nat} {p : Nat × va_E} (h : (lay S G σ)[i]? = some p) : i < S.length ∧ p.1 = G.2.2.1 i := by
  simp only [lay, List.getElem?_mapIdx] at h
  cases hS : S[i]? with
  | none => rw [hS] at h; cases h
  | some d =>
    rw [hS] at h
    cases h
    exact ⟨(List.getElem?_eq_some_iff.mp hS).1, rfl⟩
theorem lay_new {D : va_G} {cA : Nat → ClassId} {ks : (Nat → Nat) × (Nat → Nat)} {q ci : Nat} {fs : List Nat} (hfs : fs.all (fun c => decide (c < 2)) = true) : lay [.inr (.inl (ci, fs))] (Gk D cA ks [q]) z0 = [(q, .inr (ci, fs.map fun c => if c = 0 then Value.int 0 else Value.null))] := by
  have e : lay ([] ++ [.inr (.inl (ci, fs))]) (Gk D cA ks ([] ++ [q])) z0 = lay [] (Gk D cA ks []) z0 ++ [(q, cE (Gk D cA ks ([] ++ [q])) (z0 ([] : List Kd).length) (.inr (.inl (ci, fs))))] := lay_app (fun k d hk => by simp at hk) rfl
  refine e.trans ?_
  show [(q, Sum.inr (ci, _))] = [(q, Sum.inr (ci, _))]
  congr 4
  apply List.ext_getElem?
  intro j
  simp only [List.getElem?_mapIdx, List.getElem?_map]
  cases hc : fs[j]? with
  | none => rfl
  | some c =>
    have hc2 : c < 2 := by
      have := List.all_eq_true.mp hfs c (List.mem_of_getElem? hc)
      simpa using this
    match c, hc2 with
    | 0, _ => rfl
    | 1, _ => rfl
theorem wf_new {ci : Nat} {fs : List Nat} (hfs : fs.all (fun c => decide (c < 2)) = true) : Wf [.inr (.inl (ci, fs))] z0 := by
  refine ⟨fun k i => ?_, fun k d hk => ?_, fun k hk i => rfl⟩
  · show if kl _ k = true then rl 0 else rg 0
    split
    · unfold rl; omega
    · unfold rg; omega
  · have k0 : k = 0 := by
      have := (List.getElem?_eq_some_iff.mp hk).1
      simp at this
      exact this
    subst k0
    cases hk
    intro c hc
    have := List.all_eq_true.mp hfs c hc
    have : c < 2 := by simpa using this
    show c < 1 + 2
    omega
def fsX : List Nat := [1, 1, 1, 1, 1, 1, 1, 1, 1, 1, 1, 1, 1, 1, 0]
def fsM : List Nat := [0, 1, 1, 0, 1, 0, 0, 0, 1, 1, 1, 1, 1, 0, 0, 0, 0, 0, 1, 1, 1, 1, 1, 1, 1, 1, 0, 0, 0, 1, 0, 0, 0, 0, 0, 0, 1, 0, 1, 0, 1, 1, 1, 1, 1, 1, 1, 1, 1, 0, 1, 1, 0, 1, 1, 1, 1, 1, 0, 1, 1, 1, 0, 1, 0, 1, 1, 1, 1, 1, 0, 1, 0, 1, 1, 1, 1, 1, 1, 1, 1, 1, 1, 0, 0, 0, 1]
/-- the class's cells as they are made: the row of houses kept ahead is told by its contents -/
def SX0 : List Kd := SX.set 53 (.inl (3, 6))
set_option maxRecDepth 100000 in
theorem i_53 (i : Int) : sX11 z0 1 0 53 i = if (53 : Nat) = 53 ∧ i = 5 then 125 else if (53 : Nat) = 53 ∧ i = 4 then 111 else if (53 : Nat) = 53 ∧ i = 3 then 97 else if (53 : Nat) = 53 ∧ i = 2 then 83 else if (53 : Nat) = 53 ∧ i = 1 then 69 else if (53 : Nat) = 53 ∧ i = 0 then 55 else 0 := rfl
theorem kl_SX (k : Nat) : kl SX0 k = kl SX k := by
  unfold kl SX0
  by_cases h : k = 53
  · subst h; rfl
  · rw [List.getElem?_set_ne (fun e => h e.symm)]
theorem lay_SX {G : Gw} : lay SX0 G (sX11 z0 1 0) = lay SX G (sX11 z0 1 0) := by
  apply List.ext_getElem?
  intro k
  simp only [lay, List.getElem?_mapIdx]
  by_cases h : k = 53
  · subst h
    show some (G.2.2.1 53, Sum.inl (G.2.1 3, 6, Sum.inr (Sum.inr (Sum.inr (Sum.inr fun j : Nat => if sX11 z0 1 0 53 j = 0 then none else some (G.2.2.1 (sX11 z0 1 0 53 j).toNat)))))) = some (G.2.2.1 53, Sum.inl (G.2.1 3, 6, Sum.inr (Sum.inr (Sum.inr (Sum.inr fun j : Nat => (([55, 69, 83, 97, 111, 125] : List Nat)[j]?).map fun k => G.2.2.1 k)))))
    congr 8
    congr 1
    funext j
    rw [i_53]
    match j with
    | 0 => rfl
    | 1 => rfl
    | 2 => rfl
    | 3 => rfl
    | 4 => rfl
    | 5 => rfl
    | j + 6 =>
      rw [if_neg (show ¬ ((53 : Nat) = 53 ∧ ((j + 6 : Nat) : Int) = 5) by omega), if_neg (show ¬ ((53 : Nat) = 53 ∧ ((j + 6 : Nat) : Int) = 4) by omega), if_neg (show ¬ ((53 : Nat) = 53 ∧ ((j + 6 : Nat) : Int) = 3) by omega), if_neg (show ¬ ((53 : Nat) = 53 ∧ ((j + 6 : Nat) : Int) = 2) by omega), if_neg (show ¬ ((53 : Nat) = 53 ∧ ((j + 6 : Nat) : Int) = 1) by omega), if_neg (show ¬ ((53 : Nat) = 53 ∧ ((j + 6 : Nat) : Int) = 0) by omega), if_pos rfl]
      simp
  · unfold SX0
    rw [List.getElem?_set_ne (fun e => h e.symm)]
theorem ck_X (D : va_G) (cA : Nat → ClassId) (ks : (Nat → Nat) × (Nat → Nat)) (q : Nat) : CtK yX11_init cX11_init 1 3 73 233 10769 [.inr (.inl (11, fsX))] D cA ks [q] [.ref q] z0 SX0 233 (sX11 z0 1 0) := by
  have h := ck_X11_init D cA ks [.inr (.inl (11, fsX))] [q] z0 1 0 q rfl rfl rfl (by decide)
  refine Eq.mp ?_ h
  congr 1
theorem ck_M (D : va_G) (cA : Nat → ClassId) (ks : (Nat → Nat) × (Nat → Nat)) (q : Nat) : CtK yX12_init cX12_init 1 1 20 56 56536 [.inr (.inl (12, fsM))] D cA ks [q] [.ref q] z0 SM 56 (sX12 z0 1 0) :=
  ck_X12_init D cA ks [.inr (.inl (12, fsM))] [q] z0 1 0 q rfl rfl rfl
set_option maxHeartbeats 4000000 in
set_option maxRecDepth 100000 in
theorem whole_start {p : Program} {e : Env} {s : State} {m : MethodId} {below : List Frame} {meth : Method} {c : Code} (l : Launch) (hflags : l.flags = flags0) {b L : Nat} {xs : Nat → Int32} (hL : L ≤ 3072) (C0 : lw_At p s m meth c b L xs) : W p l e room_1 s m #[Value.ref b] below meth c s.heap [] 0 0 (lw_Z below #[Value.ref b] s) (entryFrame m ([Value.ref b] : List Value).toArray 4) := by
  obtain ⟨hx, hb, hr, hml, hown, hts, hX, hbl, hlocks, hgv⟩ := id C0
  have htb : ∀ w ∈ tbl, w.before #[Value.ref b] s = true := fun w hw => hts w (List.mem_filter.mp hw).1
  obtain ⟨D, cA, hK⟩ := start_K hts
  obtain ⟨ks, hSk⟩ := sk_start hts hgv
  have hN : Nws s := Nws.of hts
  have hAO : va_AO "PorchHours$Houses" s := va_AO.of (hts _ lw_over)
  have hA : ∀ q : Nat, s.heap.size ≤ q → (fun q : Nat => s.heap.size ≤ q) q := fun _ h => h
  have hS : va_S (fun q : Nat => s.heap.size ≤ q) s.heap s.heap [] := va_S.rf
  have hP : va_P D vwCl [] s.heap := fun k q h => by simp at h
  have hD : va_D (fun q : Nat => s.heap.size ≤ q) [] := ⟨fun i j p q h => by simp at h, fun k q h => by simp at h⟩
  have hl := lv_entry ([.ref b]) (n := 4) (Nat.le_of_ble_eq_true rfl)
  rw [lg_entry_eq]
  generalize (lg_sl ([.ref b]) ++ List.replicate (4 - (lg_sl ([.ref b])).length) Slot.unset).toArray = ls at hl ⊢
  have hl : lv_has ls 4 [(0, .ref b)] := hl
  refine va_new (ci := 11) (fs := fsX.map fun c => if c = 0 then Value.int 0 else Value.null) (C := RX11) (T := TX11) (N := 15) hx hb htb uwX11 tyX11 tyX11_ok hown (htb _ q_180) (htb _ q_181) (htb _ q_159) (hK (fun _ => 0) ks) hP hD hS hA rfl nf_X11 (Nat.le_of_ble_eq_true rfl) (Nat.le_of_ble_eq_true rfl) dL_law_0 (fun q0 H hP hD hS => ?_)
  have hP : va_P D vwCl [(q0, .inr (11, fsX.map fun c => if c = 0 then Value.int 0 else Value.null))] H := hP
  have hD : va_D (fun q : Nat => s.heap.size ≤ q) [(q0, .inr (11, fsX.map fun c => if c = 0 then Value.int 0 else Value.null))] := hD
  rw [← lay_new (D := D) (cA := cA) (ks := ks) (q := q0) (ci := 11) (fs := fsX) rfl] at hP hD
  refine lv_dup hx hb dL_law_3 rfl ?_
  refine va_callv (va_runI (As := []) (rest := [.ref q0]) ⟨hx, hb, hml, hown, htb⟩ (ck_X D cA ks q0 l H.size) (cwI 0 htb (gdI wiX11_init) rfl rfl rfl (htb _ wiX11_init.2.1) (htb _ q_182) (htb _ wiX11_init.1) rfl wiX11_init.2.2.2 ⟨Nat.le_of_ble_eq_true rfl, Nat.le_of_ble_eq_true rfl⟩) ⟨pwK_blind, fun U hU hW => ⟨rfl, by rw [hU], by rw [hU]; exact hP, va_K.moved hW.alike (hK _ ks), ⟨hD.1, fun _ _ _ => trivial⟩, wf_new rfl, hN.warm hW, (hSk D cA _).go hS hU hW (aA_in hD hA hS.1), va_AO.moved hW.alike hAO, rfl⟩⟩ rfl rfl hl.1 rfl (lv_room (Nat.le_of_ble_eq_true rfl)) dL_law_4 ⟨Nat.le_of_ble_eq_true rfl, Nat.le_of_ble_eq_true rfl⟩) hS (fun q _ hq => aA_in hD hA hS.1 q hq) (fun q hq => aA_in hD hA hS.1 q hq) (fun mo t H1 locs ht hvm hw hB hz1 hk1 hS1 => ?_)
  obtain ⟨hP1, hD1, hg1⟩ := hB
  rw [ht, lay_SX] at hP1
  rw [lay_SX] at hD1
  have hR1 : Rg SX (sX11 z0 1 0) := fun k i => by rw [← kl_SX]; exact hg1.1 k i
  have hD1 : va_D (fun q : Nat => s.heap.size ≤ q) (lay SX (Gk D cA ks ([q0] ++ mo)) (sX11 z0 1 0)) := ⟨hD1.1, fun k q hq => aA_in hD hA hS.1 _ (hD1.2 k q hq)⟩
  clear hP hD hk1 hz1 hvm ht
  refine lv_astore_n (lv' := [(1, .ref q0), (0, .ref b)]) hx hb dL_law_7 rfl hl (by decide) rfl (fun ls hl => ?_)
  refine va_new (ci := 12) (fs := fsM.map fun c => if c = 0 then Value.int 0 else Value.null) (C := RX12) (T := TX12) (N := 87) hx hb htb uwX12 tyX12 tyX12_ok hown (htb _ q_1541) (htb _ q_1542) (htb _ q_171) (hK (fun _ => 0) ks) hP1 hD1 hS1 hA rfl nf_X12 (Nat.le_of_ble_eq_true rfl) (Nat.le_of_ble_eq_true rfl) dL_law_8 (fun q2 H2 hP2 hD2 hS2 => ?_)
  have hPX := hP2.l
  have hPm := hP2.r
  have hDm := hD2.r
  rw [← lay_new (D := D) (cA := cA) (ks := ks) (q := q2) (ci := 12) (fs := fsM) rfl] at hPm hDm
  refine lv_dup hx hb dL_law_11 rfl ?_
  refine va_callv (va_runI (As := []) (rest := [.ref q2]) ⟨hx, hb, hml, hown, htb⟩ (ck_M D cA ks q2 l H2.size) (cwI 0 htb (gdI wiX12_init) rfl rfl rfl (htb _ wiX12_init.2.1) (htb _ q_1543) (htb _ wiX12_init.1) rfl wiX12_init.2.2.2 ⟨Nat.le_of_ble_eq_true rfl, Nat.le_of_ble_eq_true rfl⟩) ⟨pwK_blind, fun U hU hW => ⟨rfl, by rw [hU], by rw [hU]; exact hPm, va_K.moved hW.alike (hK _ ks), ⟨hDm.1, fun _ _ _ => trivial⟩, wf_new rfl, hN.warm hW, (hSk D cA _).go hS2 hU hW (aA_in hDm hA hS2.1), va_AO.moved hW.alike hAO, rfl⟩⟩ rfl rfl hl.1 rfl (lv_room (Nat.le_of_ble_eq_true rfl)) dL_law_12 ⟨Nat.le_of_ble_eq_true rfl, Nat.le_of_ble_eq_true rfl⟩) hS2 (fun q _ hq => aA_in hDm hA hS2.1 q hq) (fun q hq => aA_in hDm hA hS2.1 q hq) (fun mo2 t H3 locs3 ht hvm hw2 hB hz1 hk1 hS3 => ?_)
  obtain ⟨hPM, hDM, hgM⟩ := hB
  rw [ht] at hPM
  have far : ∀ (i : Nat) (pq : Nat × va_E), (lay SX (Gk D cA ks ([q0] ++ mo)) (sX11 z0 1 0))[i]? = some pq → ¬ aA [.inr (.inl (12, fsM))] (Gk D cA ks [q2]) H2.size pq.1 := by
    intro i pq hi z
    rcases z with ⟨k, hk, z⟩ | z
    · have k0 : k = 0 := by simp at hk; exact hk
      subst k0
      exact hD2.ap hi (show ([(q2, Sum.inr (12, fsM.map fun c => if c = 0 then Value.int 0 else Value.null))] : va_W)[0]? = some _ from rfl) z
    · have := (hPX i pq hi).lt
      omega
  have hPX3 := hPX.kept fun k q hq => hk1 q.1 (hPX k q hq).lt (far k q hq)
  have hDM0 : va_D (fun q : Nat => s.heap.size ≤ q) (lay SM (Gk D cA ks ([q2] ++ mo2)) (sX12 z0 1 0)) := ⟨hDM.1, fun k q hq => aA_in hDm hA hS2.1 _ (hDM.2 k q hq)⟩
  have hDall : ∀ σ τ, va_D (fun q : Nat => s.heap.size ≤ q) (lay SX (Gk D cA ks ([q0] ++ mo)) σ ++ lay SM (Gk D cA ks ([q2] ++ mo2)) τ) := by
    intro σ τ
    refine (lay_D (σ' := σ) hD1).two (lay_D (σ' := τ) hDM0) fun i j pq pr hi hj eq => ?_
    obtain ⟨i0, i1⟩ := lay_ad hi
    obtain ⟨j0, j1⟩ := lay_ad hj
    have hi' := lay_at (G := Gk D cA ks ([q0] ++ mo)) (σ := sX11 z0 1 0) (List.getElem?_eq_getElem i0)
    have hj' := lay_at (G := Gk D cA ks ([q2] ++ mo2)) (σ := sX12 z0 1 0) (List.getElem?_eq_getElem j0)
    refine far i _ hi' ?_
    have z := hDM.2 j _ hj'
    rw [← j1, ← eq, i1] at z
    exact z
  refine lv_astore_n (lv' := [(2, .ref q2), (1, .ref q0), (0, .ref b)]) hx hb dL_law_15 rfl hl (by decide) rfl (fun ls hl => ?_)
  refine lv_iconst (v := pI ((0 : Nat) : Int)) hx hb dL_law_16 rfl ?_
  refine lv_istore_n (lv' := [(3, .int (pI ((0 : Nat) : Int))), (2, .ref q2), (1, .ref q0), (0, .ref b)]) hx hb dL_law_17 rfl hl (by decide) rfl (fun ls hl => ?_)
  refine W.widen (k := 291) (n := 67407) (Nat.le_of_ble_eq_true rfl) (Nat.le_of_ble_eq_true rfl) ?_
  have X : CxL (p, l, e, s, m, below, meth, c, lw_Z below #[Value.ref b] s) (b, L, xs, D, cA, ks, (fun k => ([q0] ++ mo).getD k 0), (fun k => ([q2] ++ mo2).getD k 0)) :=
    ⟨hx, hb, hml, hown, htb, hK _ ks, hDall, hN, hSk D cA _, hX, hbl, hL, hr, hlocks, rfl⟩
  exact law_loop X hL (L + 1) 0 _ _ (by show L < 0 + (L + 1); omega) (by decide) s_init H3 locs3 ls hPX3 hPM hS3 hR1 hgM.1 (lv_sub hl [3, 2, 1, 0] rfl)
