/-! THE LAW: a step at a time, over both worlds -/
abbrev EL : Type := Program × Launch × Env × State × MethodId × List Frame × Method × Code × (State → Prop)
/-- the script's place, its length, its ints; the worlds' addresses -/
abbrev VL : Type := Nat × Nat × (Nat → Int32) × va_G × (Nat → ClassId) × ((Nat → Nat) × (Nat → Nat)) × (Nat → Nat) × (Nat → Nat)
def gX (V : VL) : Gw := (V.2.2.2.1, V.2.2.2.2.1, V.2.2.2.2.2.2.1, V.2.2.2.2.2.1)
def gM (V : VL) : Gw := (V.2.2.2.1, V.2.2.2.2.1, V.2.2.2.2.2.2.2, V.2.2.2.2.2.1)
def xV (V : VL) (k : Nat) : Int := (V.2.2.1 k).toInt
def AtL (E : EL) (V : VL) (σ τ : St) (pc : Nat) (L : List (Nat × Value)) (st : List Value) : Prop := match E with
  | (p, l, e, s, m, below, meth, c, Q) => ∀ (H : Heap) (locs : List Loc) (ls : Array Slot), va_P (gX V).1 vwCl (lay SX (gX V) σ) H → va_P (gX V).1 vwCl (lay SM (gM V) τ) H → va_S (fun q : Nat => s.heap.size ≤ q) s.heap H locs → Rg SX σ → Rg SM τ → lv_has ls 4 L → W p l e room_1 s m #[Value.ref V.1] below meth c H locs 291 67407 Q (F0 m pc ls st)
def CxL (E : EL) (V : VL) : Prop := match E with
  | (p, l, e, s, m, below, meth, c, Q) => p.tables.exec = Jvm.exec ∧ c.code = code ∧ c.maxLocals = 4 ∧ s.vm.findClass RL = some m.cls ∧ (∀ w ∈ tbl, w.before #[Value.ref V.1] s = true) ∧ va_K (gX V).1 vwCl (tyl (gX V)) s ∧ (∀ σ τ, va_D (fun q : Nat => s.heap.size ≤ q) (lay SX (gX V) σ ++ lay SM (gM V) τ)) ∧ Nws s ∧ Sk (fun q : Nat => s.heap.size ≤ q) (gX V) s ∧ va_X V.1 V.2.1 V.2.2.1 s s.heap ∧ V.1 < s.heap.size ∧ V.2.1 ≤ 3072 ∧ meth.sig.returnType = ret ∧ meth.locks = false ∧ Q = lw_Z below #[Value.ref V.1] s
def LL (V : VL) (i : Nat) : List (Nat × Value) := [(0, .ref V.1), (1, .ref ((gX V).2.2.1 0)), (2, .ref ((gM V).2.2.1 0)), (3, .int (pI i))]
theorem l_aload {E : EL} {V : VL} {σ τ : St} {pc : Nat} {Lc : List (Nat × Value)} {st : List Value} (X : CxL E V) {q : Fin 4} {x : Nat} (i : Nat) (hd : decode code pc = .ok (.aload_n q, 1)) (h : Lc[i]? = some ((q : Nat), .ref x)) (k : AtL E V σ τ (pc + 1) Lc (.ref x :: st)) : AtL E V σ τ pc Lc st := by
  obtain ⟨p, l, e, s, m, below, meth, c, Q⟩ := E
  obtain ⟨hx, hb, hml, hown, hts, hK, hD, hN, hSk, hX, hbl, hL, hr, hlk, hQ⟩ := X
  intro H locs ls hP hM hS hg hgm hl
  exact lv_aload_n hx hb hd rfl (lv_at hl i h) (k H locs ls hP hM hS hg hgm hl)
theorem l_arg {E : EL} {V : VL} {σ τ : St} {pc i : Nat} {st : List Value} (X : CxL E V) (k : Nat) (hk : k ≤ 5) (hi : i + 6 ≤ V.2.1) (d0 : decode code pc = .ok (.aload_n 0, 1)) (d1 : decode code (pc + 1) = .ok (.iload_n 3, 1)) (d2 : decode code (pc + 2) = .ok (.iconst (k : Int), 1)) (d3 : decode code (pc + 3) = .ok (.iadd, 1)) (d4 : decode code (pc + 4) = .ok (.iaload, 1)) (kk : AtL E V σ τ (pc + 5) (LL V i) (.int (pI (xV V (i + k))) :: st)) : AtL E V σ τ pc (LL V i) st := by
  obtain ⟨p, l, e, s, m, below, meth, c, Q⟩ := E
  obtain ⟨hx, hb, hml, hown, hts, hK, hD, hN, hSk, hX, hbl, hL, hr, hlk, hQ⟩ := X
  intro H locs ls hP hM hS hg hgm hl
  refine lv_aload_n hx hb d0 rfl (lv_at hl 0 rfl) ?_
  refine lv_iload_n hx hb d1 rfl (lv_at hl 3 rfl) ?_
  refine lv_iconst (v := pI (k : Int)) hx hb d2 rfl ?_
  refine lv_iadd hx hb d3 ?_
  have e1 : pI (i : Int) + pI (k : Int) = pI ((i + k : Nat) : Int) := by
    rw [pI_add, w32_sm (by omega), show (i : Int) + (k : Int) = ((i + k : Nat) : Int) by omega]
  rw [e1]
  have hrg : rg ((i + k : Nat) : Int) := by unfold rg; omega
  refine va_sld hx hb hX hbl (Nat.not_le.mpr hbl) hS (in_pI hrg ⟨by omega, by omega⟩) d4 ?_
  rw [clamp_pI hrg, Int.toNat_natCast, ← pI_of (V.2.2.1 (i + k))]
  exact kk H locs ls hP hM hS hg hgm hl
theorem l_aA {S : List Kd} {G : Gw} {s : State} {H : Heap} {locs : List Loc} {σ : St} (hD : va_D (fun q : Nat => s.heap.size ≤ q) (lay S G σ)) (hS : va_S (fun q : Nat => s.heap.size ≤ q) s.heap H locs) : ∀ q, aA S G H.size q → s.heap.size ≤ q := by
  intro q hq
  rcases hq with ⟨k, hk, rfl⟩ | hq
  · exact hD.2 k _ (lay_at (List.getElem?_eq_getElem hk))
  · exact Nat.le_trans hS.1 hq
theorem va_D.l {A : Nat → Prop} {w1 w2 : va_W} (h : va_D A (w1 ++ w2)) : va_D A w1 := by
  have at1 : ∀ (k : Nat) (q : Nat × va_E), w1[k]? = some q → (w1 ++ w2)[k]? = some q := fun k q hk => by
    rw [List.getElem?_append_left (List.getElem?_eq_some_iff.mp hk).1]; exact hk
  exact ⟨fun i j p q hi hj => h.1 i j p q (at1 i p hi) (at1 j q hj), fun k q hk => h.2 k q (at1 k q hk)⟩
theorem va_D.r {A : Nat → Prop} {w1 w2 : va_W} (h : va_D A (w1 ++ w2)) : va_D A w2 := by
  have at2 : ∀ (k : Nat) (q : Nat × va_E), w2[k]? = some q → (w1 ++ w2)[w1.length + k]? = some q := fun k q hk => by
    rw [List.getElem?_append_right (by omega), show w1.length + k - w1.length = k by omega]; exact hk
  exact ⟨fun i j p q hi hj e => by have := h.1 _ _ p q (at2 i p hi) (at2 j q hj) e; omega, fun k q hk => h.2 _ q (at2 k q hk)⟩
theorem va_D.ap {A : Nat → Prop} {w1 w2 : va_W} (h : va_D A (w1 ++ w2)) {i j : Nat} {p q : Nat × va_E} (hi : w1[i]? = some p) (hj : w2[j]? = some q) : p.1 ≠ q.1 := by
  intro e
  have a1 : (w1 ++ w2)[i]? = some p := by rw [List.getElem?_append_left (List.getElem?_eq_some_iff.mp hi).1]; exact hi
  have a2 : (w1 ++ w2)[w1.length + j]? = some q := by rw [List.getElem?_append_right (by omega), show w1.length + j - w1.length = j by omega]; exact hj
  have := h.1 _ _ p q a1 a2 e
  have := (List.getElem?_eq_some_iff.mp hi).1
  omega
theorem l_callX {E : EL} {V : VL} {σ τ σ1 : St} {pc : Nat} {Lc : List (Nat × Value)} {st : List Value} (X : CxL E V) {idx na n1 fr1 lo1 NF : Nat} {TF : u_T} {fs : List Nat} {y : MethodName} {b1 : ByteArray} {ret1 : Option FieldType} {r : Int} {pr : Int → Prop} (hd : decode code pc = .ok (.invokevirtual idx, 3)) (hlk : Cond.methodLink RL idx y ∈ tbl) (w : WV y b1 n1 ret1 na) (hk : SX[0]? = some (.inr (.inl (11, fs)))) (hc : vwCl[11]? = some (y.cls, TF, NF)) (hR : fr1 + 1 ≤ 14 ∧ 8 + (n1 + 11) + lo1 ≤ 538) (As rest : List Value) (hst : st = As.reverse ++ .ref ((gX V).2.2.1 0) :: rest) (hna : As.length = na) (hrm : (rest.map fun v => v.category).sum ≤ 8) (hct : Ct y b1 n1 ret1 fr1 lo1 SX (gX V) (.ref ((gX V).2.2.1 0) :: As) σ (QI SX (gX V) r pr σ1)) (kk : AtL E V σ1 τ (pc + 3) Lc (.int (pI r) :: rest)) : AtL E V σ τ pc Lc st := by
  obtain ⟨p, l, e, s, m, below, meth, c, Q⟩ := E
  obtain ⟨hx, hb, hml, hown, hts, hK, hD, hN, hSk, hX, hbl, hL, hr, hlks, hQ⟩ := X
  intro H locs ls hP hM hS hg hgm hl
  subst hst
  have hDX := (hD σ τ).l
  refine va_calli (va_runV (As := As) (rest := rest) ⟨hx, hb, hml, hown, hts⟩ (hct l H.size) (cwV na hts (gdV w hlk) rfl rfl rfl ⟨rfl, w.2.2.2.2⟩ hR) ⟨pw_blind, va_recv hK hP hc (lay_obj hk), fun U hU hW => ⟨rfl, by rw [hU], by rw [hU]; exact hP, va_K.moved hW.alike hK, ⟨hDX.1, fun _ _ _ => trivial⟩, hg, hN.warm hW, hSk.go hS hU hW (l_aA hDX hS)⟩⟩ rfl hna hl.1 rfl (lv_room hrm) hd ⟨Nat.le_of_ble_eq_true rfl, Nat.le_of_ble_eq_true rfl⟩) hS (fun q _ hq => l_aA hDX hS q hq) (fun q hq => l_aA hDX hS q hq) (fun r32 u t H1 locs1 ht hvm hw hB hz1 hk1 hS1 => ?_)
  obtain ⟨rfl, hpr⟩ := hw
  obtain ⟨hP1, hg1⟩ := hB
  rw [ht] at hP1
  refine kk H1 locs1 ls hP1 (hM.kept fun k q hq => hk1 q.1 (hM k q hq).lt fun z => ?_) hS1 hg1 hgm hl
  rcases z with ⟨j, hj, z⟩ | z
  · exact (hD σ τ).ap (lay_at (List.getElem?_eq_getElem hj)) hq z.symm
  · have := (hM k q hq).lt
    omega
theorem l_callM {E : EL} {V : VL} {σ τ τ1 : St} {pc : Nat} {Lc : List (Nat × Value)} {st : List Value} (X : CxL E V) {idx na n1 fr1 lo1 NF : Nat} {TF : u_T} {fs : List Nat} {y : MethodName} {b1 : ByteArray} {ret1 : Option FieldType} {r : Int} {pr : Int → Prop} (hd : decode code pc = .ok (.invokevirtual idx, 3)) (hlk : Cond.methodLink RL idx y ∈ tbl) (w : WV y b1 n1 ret1 na) (hk : SM[0]? = some (.inr (.inl (12, fs)))) (hc : vwCl[12]? = some (y.cls, TF, NF)) (hR : fr1 + 1 ≤ 14 ∧ 8 + (n1 + 11) + lo1 ≤ 538) (As rest : List Value) (hst : st = As.reverse ++ .ref ((gM V).2.2.1 0) :: rest) (hna : As.length = na) (hrm : (rest.map fun v => v.category).sum ≤ 8) (hct : Ct y b1 n1 ret1 fr1 lo1 SM (gM V) (.ref ((gM V).2.2.1 0) :: As) τ (QI SM (gM V) r pr τ1)) (kk : AtL E V σ τ1 (pc + 3) Lc (.int (pI r) :: rest)) : AtL E V σ τ pc Lc st := by
  obtain ⟨p, l, e, s, m, below, meth, c, Q⟩ := E
  obtain ⟨hx, hb, hml, hown, hts, hK, hD, hN, hSk, hX, hbl, hL, hr, hlks, hQ⟩ := X
  intro H locs ls hP hM hS hg hgm hl
  subst hst
  have hDM := (hD σ τ).r
  have hKM : va_K (gM V).1 vwCl (tyl (gM V)) s := hK
  have hSkM : Sk (fun q : Nat => s.heap.size ≤ q) (gM V) s := hSk
  have hM' : va_P (gM V).1 vwCl (lay SM (gM V) τ) H := hM
  refine va_calli (va_runV (As := As) (rest := rest) ⟨hx, hb, hml, hown, hts⟩ (hct l H.size) (cwV na hts (gdV w hlk) rfl rfl rfl ⟨rfl, w.2.2.2.2⟩ hR) ⟨pw_blind, va_recv hKM hM' hc (lay_obj hk), fun U hU hW => ⟨rfl, by rw [hU], by rw [hU]; exact hM', va_K.moved hW.alike hKM, ⟨hDM.1, fun _ _ _ => trivial⟩, hgm, hN.warm hW, hSkM.go hS hU hW (l_aA hDM hS)⟩⟩ rfl hna hl.1 rfl (lv_room hrm) hd ⟨Nat.le_of_ble_eq_true rfl, Nat.le_of_ble_eq_true rfl⟩) hS (fun q _ hq => l_aA hDM hS q hq) (fun q hq => l_aA hDM hS q hq) (fun r32 u t H1 locs1 ht hvm hw hB hz1 hk1 hS1 => ?_)
  obtain ⟨rfl, hpr⟩ := hw
  obtain ⟨hM1, hg1⟩ := hB
  rw [ht] at hM1
  refine kk H1 locs1 ls (hP.kept fun k q hq => hk1 q.1 (hP k q hq).lt fun z => ?_) hM1 hS1 hg hg1 hl
  rcases z with ⟨j, hj, z⟩ | z
  · exact (hD σ τ).ap hq (lay_at (List.getElem?_eq_getElem hj)) z
  · have := (hP k q hq).lt
    omega
theorem l_eq {E : EL} {V : VL} {σ τ : St} {pc : Nat} {Lc : List (Nat × Value)} {st : List Value} (X : CxL E V) {v : Int32} {off : Int} {tgt : Nat} (hd : decode code pc = .ok (.if_icmp .eq off, 3)) (ht : (pc : Int) + off = (tgt : Int)) (k : AtL E V σ τ tgt Lc st) : AtL E V σ τ pc Lc (.int v :: .int v :: st) := by
  obtain ⟨p, l, e, s, m, below, meth, c, Q⟩ := E
  obtain ⟨hx, hb, hml, hown, hts, hK, hD, hN, hSk, hX, hbl, hL, hr, hlk, hQ⟩ := X
  intro H locs ls hP hM hS hg hgm hl
  exact lv_icmp_eq hx hb hd ht (fun _ => k H locs ls hP hM hS hg hgm hl) (fun c => absurd rfl c)
/-- what is not 0, as a truth -/
def tb1 (a : Int) : Int := if a = 0 then 0 else 1
theorem tb1_01 (a : Int) : r01 (tb1 a) := by unfold r01 tb1; split <;> omega
theorem l_bool {E : EL} {V : VL} {σ τ : St} {pc : Nat} {Lc : List (Nat × Value)} {st : List Value} (X : CxL E V) {a : Int} (ra : rg a) (d0 : decode code pc = .ok (.ifCond .eq 7, 3)) (d1 : decode code (pc + 3) = .ok (.iconst 1, 1)) (d2 : decode code (pc + 4) = .ok (.goto 4, 3)) (d3 : decode code (pc + 7) = .ok (.iconst 0, 1)) (k : AtL E V σ τ (pc + 8) Lc (.int (pI (tb1 a)) :: st)) : AtL E V σ τ pc Lc (.int (pI a) :: st) := by
  obtain ⟨p, l, e, s, m, below, meth, c, Q⟩ := E
  obtain ⟨hx, hb, hml, hown, hts, hK, hD, hN, hSk, hX, hbl, hL, hr, hlk, hQ⟩ := X
  intro H locs ls hP hM hS hg hgm hl
  refine lv_if_eq (tgt := pc + 7) hx hb d0 (by omega) (fun z => ?_) (fun z => ?_)
  · have z : a = 0 := (pI_eqz ra).mp z
    refine lv_iconst (v := pI (tb1 a)) hx hb d3 (by unfold tb1; rw [if_pos z]; rfl) ?_
    exact k H locs ls hP hM hS hg hgm hl
  · have z : a ≠ 0 := fun q => z ((pI_eqz ra).mpr q)
    refine lv_iconst (v := pI (tb1 a)) hx hb d1 (by unfold tb1; rw [if_neg z]; rfl) ?_
    refine lv_goto (tgt := pc + 8) hx hb d2 (by omega) ?_
    exact k H locs ls hP hM hS hg hgm hl
theorem rg_i {i : Nat} (h : i ≤ 3078) : rg (i : Int) := by unfold rg; omega
/-- on to the next call -/
theorem l_next {E : EL} {V : VL} {σ τ : St} {i : Nat} (X : CxL E V) (hi : i + 6 ≤ V.2.1) (k : AtL E V σ τ 18 (LL V (i + 6)) []) : AtL E V σ τ 1548 (LL V i) [] := by
  obtain ⟨p, l, e, s, m, below, meth, c, Q⟩ := E
  obtain ⟨hx, hb, hml, hown, hts, hK, hD, hN, hSk, hX, hbl, hL, hr, hlk, hQ⟩ := X
  intro H locs ls hP hM hS hg hgm hl
  have e1 : pI (i : Int) + Int32.ofInt 6 = pI ((i + 6 : Nat) : Int) := by
    rw [show Int32.ofInt 6 = pI 6 from rfl, pI_add, w32_sm (by omega), show (i : Int) + 6 = ((i + 6 : Nat) : Int) by omega]
  refine lv_iinc (v := pI ((i + 6 : Nat) : Int)) (k := 3) (lv' := [(3, .int (pI ((i + 6 : Nat) : Int))), (0, .ref V.1), (1, .ref ((gX V).2.2.1 0)), (2, .ref ((gM V).2.2.1 0))]) hx hb dL_law_1548 hl rfl e1 (by decide) rfl (fun ls1 hl1 => ?_)
  refine lv_goto (tgt := 18) hx hb dL_law_1551 (by decide) ?_
  exact k H locs ls1 hP hM hS hg hgm (lv_sub hl1 [1, 2, 3, 0] rfl)
theorem l_end {E : EL} {V : VL} {σ τ : St} {i : Nat} (X : CxL E V) : AtL E V σ τ 1554 (LL V i) [] := by
  obtain ⟨p, l, e, s, m, below, meth, c, Q⟩ := E
  obtain ⟨hx, hb, hml, hown, hts, hK, hD, hN, hSk, hX, hbl, hL, hr, hlk, hQ⟩ := X
  intro H locs ls hP hM hS hg hgm hl
  subst hQ
  refine lv_iconst (v := 1) hx hb dL_law_1554 rfl ?_
  refine va_forget hS.2.2 ?_
  refine W.widen (k := 600000) (n := 7302249) (Nat.le_of_ble_eq_true rfl) (Nat.le_of_ble_eq_true rfl) ?_
  exact lw_ret hx hb hr hlk dL_law_1555
/-- the head of the loop -/
theorem l_head {E : EL} {V : VL} {σ τ : St} {i : Nat} (X : CxL E V) (hi : i ≤ 3078) (kt : AtL E V σ τ 1554 (LL V i) []) (kf : i + 6 ≤ V.2.1 → AtL E V σ τ 27 (LL V i) []) : AtL E V σ τ 18 (LL V i) [] := by
  obtain ⟨p, l, e, s, m, below, meth, c, Q⟩ := E
  obtain ⟨hx, hb, hml, hown, hts, hK, hD, hN, hSk, hX, hbl, hL, hr, hlk, hQ⟩ := X
  intro H locs ls hP hM hS hg hgm hl
  refine lv_iload_n hx hb dL_law_18 rfl (lv_at hl 3 rfl) ?_
  refine lv_aload_n hx hb dL_law_19 rfl (lv_at hl 0 rfl) ?_
  refine va_slen hx hb hX hbl (Nat.not_le.mpr hbl) hS dL_law_20 ?_
  refine lv_bipush (v := pI 6) hx hb dL_law_21 rfl ?_
  refine lv_isub hx hb dL_law_23 ?_
  have e1 : Int32.ofNat V.2.1 - pI 6 = pI ((V.2.1 : Int) - 6) := by
    rw [show Int32.ofNat V.2.1 = pI (V.2.1 : Int) from rfl, pI_sub, w32_sm (by omega)]
  rw [e1]
  have r1 : rg ((V.2.1 : Int) - 6) := by unfold rg; omega
  refine lv_icmp_gt (tgt := 1554) hx hb dL_law_24 (by decide) (fun c => ?_) (fun c => ?_)
  · exact kt H locs ls hP hM hS hg hgm hl
  · rw [pI_lt r1 (rg_i hi)] at c
    exact kf (by omega) H locs ls hP hM hS hg hgm hl
theorem and63 (x : Int32) : ∃ k : Nat, k < 64 ∧ (x &&& pI 63).toInt = k := by
  refine ⟨(x &&& pI 63).toBitVec.toNat, ?_, ?_⟩
  · rw [Int32.toBitVec_and, BitVec.toNat_and]
    exact Nat.lt_of_le_of_lt Nat.and_le_right (by decide)
  · refine toI_small rfl ?_
    rw [Int32.toBitVec_and, BitVec.toNat_and]
    exact Nat.lt_of_le_of_lt Nat.and_le_right (by decide)
/-- which call -/
theorem l_which {E : EL} {V : VL} {σ τ : St} {i : Nat} (X : CxL E V) (hi : i + 6 ≤ V.2.1) (k : ∀ (v : Int32) (n : Nat), n < 64 → v.toInt = n → AtL E V σ τ 33 (LL V i) [.int v]) : AtL E V σ τ 27 (LL V i) [] := by
  obtain ⟨p, l, e, s, m, below, meth, c, Q⟩ := E
  obtain ⟨hx, hb, hml, hown, hts, hK, hD, hN, hSk, hX, hbl, hL, hr, hlk, hQ⟩ := X
  intro H locs ls hP hM hS hg hgm hl
  refine lv_aload_n hx hb dL_law_27 rfl (lv_at hl 0 rfl) ?_
  refine lv_iload_n hx hb dL_law_28 rfl (lv_at hl 3 rfl) ?_
  have hrg : rg (i : Int) := by unfold rg; omega
  refine va_sld hx hb hX hbl (Nat.not_le.mpr hbl) hS (in_pI hrg ⟨by omega, by omega⟩) dL_law_29 ?_
  refine lv_bipush (v := pI 63) hx hb dL_law_30 rfl ?_
  refine lv_iand hx hb dL_law_32 ?_
  obtain ⟨n, hn, e1⟩ := and63 (V.2.2.1 (pI (i : Int)).toNatClampNeg)
  exact k _ n hn e1 H locs ls hP hM hS hg hgm hl
theorem l_in {E : EL} {V : VL} {σ τ : St} {Lc : List (Nat × Value)} {v : Int32} {n : Nat} {off : Int} {tgt : Nat} (X : CxL E V) (hv : v.toInt = n) (hn : n < 42) (ho : (#[183, 206, 239, 272, 315, 358, 381, 444, 467, 490, 513, 546, 579, 612, 645, 678, 701, 744, 787, 820, 843, 886, 929, 952, 985, 1008, 1031, 1054, 1077, 1110, 1133, 1156, 1179, 1212, 1245, 1278, 1321, 1374, 1407, 1440, 1453, 1492] : Array Int)[n]? = some off) (ht : (33 : Int) + off = (tgt : Int)) (k : AtL E V σ τ tgt Lc []) : AtL E V σ τ 33 Lc [.int v] := by
  obtain ⟨p, l, e, s, m, below, meth, c, Q⟩ := E
  obtain ⟨hx, hb, hml, hown, hts, hK, hD, hN, hSk, hX, hbl, hL, hr, hlk, hQ⟩ := X
  intro H locs ls hP hM hS hg hgm hl
  refine lv_tableIn (off := off) (tgt := tgt) hx hb dL_law_33 (by omega) (by omega) ?_ ht (k H locs ls hP hM hS hg hgm hl)
  rw [hv, show ((n : Int) - 0).toNat = n by omega]
  exact ho
theorem l_out {E : EL} {V : VL} {σ τ : St} {Lc : List (Nat × Value)} {v : Int32} {n : Nat} (X : CxL E V) (hv : v.toInt = n) (hn : 42 ≤ n) (k : AtL E V σ τ 1548 Lc []) : AtL E V σ τ 33 Lc [.int v] := by
  obtain ⟨p, l, e, s, m, below, meth, c, Q⟩ := E
  obtain ⟨hx, hb, hml, hown, hts, hK, hD, hN, hSk, hX, hbl, hL, hr, hlk, hQ⟩ := X
  intro H locs ls hP hM hS hg hgm hl
  exact lv_tableOut (tgt := 1548) hx hb dL_law_33 (by omega) (by decide) (k H locs ls hP hM hS hg hgm hl)
