def lsc {β : Type} (w : Nat) (i : Int) (g : Int → Rs β) : Rs β := if 0 ≤ i ∧ i < (strL.getD w 0 : Int) then g ((strW.getD w []).getD i.toNat 0) else none
theorem str_ok : ∀ w, w < 28 → ∀ j, j < strL.getD w 0 → (strB.getD w []).getD j 0 = pI ((strW.getD w []).getD j 0) := by decide +kernel
theorem strC_bd : ∀ w, w < 28 → ∀ j, j < strL.getD w 0 → 0 ≤ (strW.getD w []).getD j 0 ∧ (strW.getD w []).getD j 0 ≤ 255 := by decide +kernel
theorem strL_bd : ∀ w, w < 28 → strL.getD w 0 ≤ 7 := by decide +kernel
theorem slen_rg {w : Nat} (h : w < 28) : rg (strL.getD w 0 : Int) := by have := strL_bd w h; unfold rg; omega
theorem imx_rg {a b : Int} (ra : rg a) (rb : rg b) : rg (imx a b) := by unfold imx; split <;> assumption
theorem imn_rg {a b : Int} (ra : rg a) (rb : rg b) : rg (imn a b) := by unfold imn; split <;> assumption
theorem iab_rg {a : Int} (ra : rg a) : rg (iab a) := by unfold iab; split; exact ra; exact w32_rg _
def rch (a : Int) : Prop := 0 ≤ a ∧ a ≤ 65535
theorem rch_rg {a : Int} (h : rch a) : rg a := by unfold rch at h; unfold rg; omega
def i2c (a : Int) : Int := ((pI a).toUInt32 % 65536).toInt32.toInt
theorem u16_int (x : UInt32) : (x % 65536).toInt32.toInt = (x.toNat : Int) % 65536 := by
  have h : (x % 65536).toNat = x.toNat % 65536 := by simp
  have h2 : (x % 65536).toInt32 = Int32.ofNat ((x % 65536).toNat) := by
    apply Int32.toBitVec.inj
    apply BitVec.eq_of_toNat_eq
    simp
    omega
  rw [h2, h, Int32.toInt_ofNat_of_lt (by omega)]
  omega
theorem i2c_bd (a : Int) : rch (i2c a) := by
  unfold i2c rch
  rw [u16_int]
  omega
theorem ok_ret {β : Type} {x : β} {σ : St} {K : β → St → Prop} (k : K x σ) : Ok (some (x, σ)) K := ⟨x, σ, rfl, k⟩
theorem ok_none {β : Type} {K : β → St → Prop} {P : Prop} (o : Ok (none : Rs β) K) : P := by obtain ⟨x, σ, h, _⟩ := o; cases h
theorem nrg {n : Nat} (h : n ≤ 65536) : rg (n : Int) := by unfold rg; omega
theorem lsw_out {d a : Int} {ps : List (Int × Int)} (h : ∀ q ∈ ps, a ≠ q.1) : Op.lookupswitch.offset ps d a = d := by
  induction ps with
  | nil => rfl
  | cons q r ih =>
    unfold Op.lookupswitch.offset
    rw [if_neg (fun e => h q List.mem_cons_self e.symm)]
    exact ih (fun q' hq => h q' (List.mem_cons_of_mem _ hq))
/-- a row: width, cells, lines -/
def isR (S : List Kd) (o c n : Nat) : Prop := S[o]? = some (.inr (.inl (6, [0, c + 2, 0]))) ∧ S[c]? = some (.inl (0, n)) ∧ n ≤ 65536
def isH (S : List Kd) (h : Nat) : Prop := S[h]? = some (.inr (.inl (2, [0, 0, 0, 0, 0, 0, h + 1 + 2, h + 2 + 2, h + 3 + 2, h + 4 + 2, h + 5 + 2, h + 6 + 2, h + 7 + 2, h + 8 + 2, h + 9 + 2, h + 10 + 2, h + 11 + 2, h + 12 + 2, h + 13 + 2]))) ∧ S[h + 1]? = some (.inl (0, 12)) ∧ S[h + 2]? = some (.inl (0, 12)) ∧ S[h + 3]? = some (.inl (0, 12)) ∧ S[h + 4]? = some (.inl (0, 12)) ∧ S[h + 5]? = some (.inl (0, 12)) ∧ S[h + 6]? = some (.inl (0, 20)) ∧ S[h + 7]? = some (.inl (0, 20)) ∧ S[h + 8]? = some (.inl (0, 20)) ∧ S[h + 9]? = some (.inl (0, 20)) ∧ S[h + 10]? = some (.inl (0, 20)) ∧ S[h + 11]? = some (.inl (0, 20)) ∧ S[h + 12]? = some (.inl (0, 20)) ∧ S[h + 13]? = some (.inl (0, 20))
theorem z_ldcS {E : ET} {cc : ByteArray} {own : String} {S : List Kd} {G : Gw} {n fr lo : Nat} {σ : St} {pc : Nat} {L : List (Nat × Value)} {st : List Value} (X : Cx E cc own S G n fr lo) {idx i : Nat} {tx : String} (ho : own = "PorchHours$Tokens") (hd : decode cc pc = .ok (.ldc idx, 2)) (hi : strT[i]? = some (idx, tx)) (k : At E σ (pc + 2) L (.ref (G.2.2.2.1 i) :: st)) : At E σ pc L st := by
  obtain ⟨p, l, e, R, s, m, args, below, meth, c, Q, S', G', n'⟩ := E
  obtain ⟨rfl, rfl, rfl, hx, hb, hml, hown, hts, hK, hD, hN, hSk, hR⟩ := X
  intro H locs ls hP hS hg hl
  obtain ⟨k1, k2, k3, k4⟩ := hSk
  subst ho
  exact va_ldcS hx hb hown (k2 i _ hi) hd (k H locs ls hP hS hg hl)
theorem z_sval {E : ET} {cc : ByteArray} {own : String} {S : List Kd} {G : Gw} {n fr lo : Nat} {σ : St} {pc : Nat} {L : List (Nat × Value)} {st : List Value} (X : Cx E cc own S G n fr lo) {idx i : Nat} (hd : decode cc pc = .ok (.getfield idx, 3)) (hlk : Cond.fieldLink own idx "java/lang/String" "value" "[B" ∈ tbl) (hi : i < 28) (k : At E σ (pc + 3) L (.ref (G.2.2.2.2 i) :: st)) : At E σ pc L (.ref (G.2.2.2.1 i) :: st) := by
  obtain ⟨p, l, e, R, s, m, args, below, meth, c, Q, S', G', n'⟩ := E
  obtain ⟨rfl, rfl, rfl, hx, hb, hml, hown, hts, hK, hD, hN, hSk, hR⟩ := X
  intro H locs ls hP hS hg hl
  obtain ⟨k1, k2, k3, k4⟩ := hSk
  exact vk_getf hx hb (k1.1 i hi).2.2.1 hS hown (hts _ hlk) (fun _ h => h) hd (k H locs ls hP hS hg hl)
theorem z_scod {E : ET} {cc : ByteArray} {own : String} {S : List Kd} {G : Gw} {n fr lo : Nat} {σ : St} {pc : Nat} {L : List (Nat × Value)} {st : List Value} (X : Cx E cc own S G n fr lo) {idx i : Nat} (hd : decode cc pc = .ok (.getfield idx, 3)) (hlk : Cond.fieldLink own idx "java/lang/String" "coder" "B" ∈ tbl) (hi : i < 28) (k : At E σ (pc + 3) L (.int (pI 0) :: st)) : At E σ pc L (.ref (G.2.2.2.1 i) :: st) := by
  obtain ⟨p, l, e, R, s, m, args, below, meth, c, Q, S', G', n'⟩ := E
  obtain ⟨rfl, rfl, rfl, hx, hb, hml, hown, hts, hK, hD, hN, hSk, hR⟩ := X
  intro H locs ls hP hS hg hl
  obtain ⟨k1, k2, k3, k4⟩ := hSk
  exact vk_getf hx hb (k1.1 i hi).2.1 hS hown (hts _ hlk) (fun _ h => h) hd (k H locs ls hP hS hg hl)
theorem z_slen {E : ET} {cc : ByteArray} {own : String} {S : List Kd} {G : Gw} {n fr lo : Nat} {σ : St} {pc : Nat} {L : List (Nat × Value)} {st : List Value} (X : Cx E cc own S G n fr lo) {i : Nat} (hd : decode cc pc = .ok (.arraylength, 1)) (hi : i < 28) (k : At E σ (pc + 1) L (.int (pI (strL.getD i 0 : Int)) :: st)) : At E σ pc L (.ref (G.2.2.2.2 i) :: st) := by
  obtain ⟨p, l, e, R, s, m, args, below, meth, c, Q, S', G', n'⟩ := E
  obtain ⟨rfl, rfl, rfl, hx, hb, hml, hown, hts, hK, hD, hN, hSk, hR⟩ := X
  intro H locs ls hP hS hg hl
  obtain ⟨k1, k2, k3, k4⟩ := hSk
  exact va_tlen hx hb (k1.1 i hi).2.2.2 hS rfl hd (k H locs ls hP hS hg hl)
theorem z_sbld {E : ET} {cc : ByteArray} {own : String} {S : List Kd} {G : Gw} {n fr lo : Nat} {σ : St} {pc : Nat} {L : List (Nat × Value)} {st : List Value} (X : Cx E cc own S G n fr lo) {β : Type} {K : β → St → Prop} {i : Nat} {a : Int} {g : Int → Rs β} (hd : decode cc pc = .ok (.baload, 1)) (hi : i < 28) (ra : rg a) (o : Ok (lsc i a g) K) (k : ∀ v, rg v → Ok (g v) K → At E σ (pc + 1) L (.int (pI v) :: st)) : At E σ pc L (.int (pI a) :: .ref (G.2.2.2.2 i) :: st) := by
  obtain ⟨p, l, e, R, s, m, args, below, meth, c, Q, S', G', n'⟩ := E
  obtain ⟨rfl, rfl, rfl, hx, hb, hml, hown, hts, hK, hD, hN, hSk, hR⟩ := X
  intro H locs ls hP hS hg hl
  obtain ⟨k1, k2, k3, k4⟩ := hSk
  obtain ⟨ha, o⟩ := ok_gd o
  have hj : a.toNat < strL.getD i 0 := by omega
  refine va_tb hx hb (k1.1 i hi).2.2.2 hS (in_pI ra ha) (v := .int (pI ((strW.getD i []).getD a.toNat 0))) ?_ hd ?_
  · show Value.int ((strB.getD i []).getD (pI a).toNatClampNeg 0) = _
    rw [clamp_pI ra, str_ok i hi _ hj]
  · exact k _ (by have := strC_bd i hi _ hj; unfold rg; omega) o H locs ls hP hS hg hl
theorem z_getsC {E : ET} {cc : ByteArray} {own : String} {S : List Kd} {G : Gw} {n fr lo : Nat} {σ : St} {pc : Nat} {L : List (Nat × Value)} {st : List Value} (X : Cx E cc own S G n fr lo) {idx : Nat} (hd : decode cc pc = .ok (.getstatic idx, 3)) (hlk : Cond.fieldLink own idx "java/lang/String" "COMPACT_STRINGS" "Z" ∈ tbl) (k : At E σ (pc + 3) L (.int (pI 1) :: st)) : At E σ pc L st := by
  obtain ⟨p, l, e, R, s, m, args, below, meth, c, Q, S', G', n'⟩ := E
  obtain ⟨rfl, rfl, rfl, hx, hb, hml, hown, hts, hK, hD, hN, hSk, hR⟩ := X
  intro H locs ls hP hS hg hl
  obtain ⟨k1, k2, k3, k4⟩ := hSk
  exact va_gets hx hb k3 hS hown (hts _ hlk) (fun _ h => h) hd (k H locs ls hP hS hg hl)
theorem z_getsF {E : ET} {cc : ByteArray} {own : String} {S : List Kd} {G : Gw} {n fr lo : Nat} {σ : St} {pc : Nat} {L : List (Nat × Value)} {st : List Value} (X : Cx E cc own S G n fr lo) {idx : Nat} (hd : decode cc pc = .ok (.getstatic idx, 3)) (hlk : Cond.fieldLink own idx "jdk/internal/util/Preconditions" "SIOOBE_FORMATTER" "Ljava/util/function/BiFunction;" ∈ tbl) (k : ∀ v : Value, v.category = 1 → At E σ (pc + 3) L (v :: st)) : At E σ pc L st := by
  obtain ⟨p, l, e, R, s, m, args, below, meth, c, Q, S', G', n'⟩ := E
  obtain ⟨rfl, rfl, rfl, hx, hb, hml, hown, hts, hK, hD, hN, hSk, hR⟩ := X
  intro H locs ls hP hS hg hl
  obtain ⟨k1, k2, k3, k4⟩ := hSk
  rcases k4 with k4 | ⟨t, k4⟩
  · exact va_gets hx hb k4 hS hown (hts _ hlk) (fun _ h => h) hd (k _ rfl H locs ls hP hS hg hl)
  · exact va_gets hx hb k4 hS hown (hts _ hlk) (fun _ h => h) hd (k _ rfl H locs ls hP hS hg hl)
theorem z_alenL {E : ET} {cc : ByteArray} {own : String} {S : List Kd} {G : Gw} {n fr lo : Nat} {σ : St} {pc : Nat} {L : List (Nat × Value)} {st : List Value} (X : Cx E cc own S G n fr lo) {k len : Nat} (hd : decode cc pc = .ok (.arraylength, 1)) (hk : S[k]? = some (.inl (2, len))) (kk : At E σ (pc + 1) L (.int (pI len) :: st)) : At E σ pc L (.ref (G.2.2.1 k) :: st) := by
  obtain ⟨p, l, e, R, s, m, args, below, meth, c, Q, S', G', n'⟩ := E
  obtain ⟨rfl, rfl, rfl, hx, hb, hml, hown, hts, hK, hD, hN, hSk, hR⟩ := X
  intro H locs ls hP hS hg hl
  refine va_alen hx hb hK hP k 2 (lay_long hk) rfl rfl hd ?_
  exact kk H locs ls hP hS hg hl
theorem z_i2c {E : ET} {cc : ByteArray} {own : String} {S : List Kd} {G : Gw} {n fr lo : Nat} {σ : St} {pc : Nat} {L : List (Nat × Value)} {st : List Value} (X : Cx E cc own S G n fr lo) {a : Int} (hd : decode cc pc = .ok (.i2c, 1)) (k : At E σ (pc + 1) L (.int (pI (i2c a)) :: st)) : At E σ pc L (.int (pI a) :: st) := by
  obtain ⟨p, l, e, R, s, m, args, below, meth, c, Q, S', G', n'⟩ := E
  obtain ⟨rfl, rfl, rfl, hx, hb, hml, hown, hts, hK, hD, hN, hSk, hR⟩ := X
  intro H locs ls hP hS hg hl
  exact lv_i2c hx hb hd (by unfold i2c; rw [pI_of]) (k H locs ls hP hS hg hl)
theorem z_istoreL_n {E : ET} {cc : ByteArray} {own : String} {S : List Kd} {G : Gw} {n fr lo : Nat} {σ : St} {pc : Nat} {L : List (Nat × Value)} {st : List Value} (X : Cx E cc own S G n fr lo) {β : Type} {K : β → St → Prop} {q : Fin 4} {i : Nat} {v : Int} {g : Int → Rs β} {L1 : Int → List (Nat × Value)} {R : Int → Prop} (hd : decode cc pc = .ok (.istore_n q, 1)) (hi : (q : Nat) = i) (hn : i < n) (h : ∀ x, (i, Value.int (pI x)) :: L.filter (fun q => !(q.1 == i) && !(q.1 + 1 == i && q.2.category == 2)) = L1 x) (o : Ok (lb v g) K) (hr : R v) (k : ∀ x, R x → Ok (g x) K → At E σ (pc + 1) (L1 x) st) : At E σ pc L (.int (pI v) :: st) := by
  obtain ⟨p, l, e, R, s, m, args, below, meth, c, Q, S', G', n'⟩ := E
  obtain ⟨rfl, rfl, rfl, hx, hb, hml, hown, hts, hK, hD, hN, hSk, hR⟩ := X
  intro H locs ls hP hS hg hl
  exact lv_istore_n hx hb hd hi hl hn (h v) (fun ls1 hl1 => k v hr o H locs ls1 hP hS hg hl1)
theorem z_istoreL {E : ET} {cc : ByteArray} {own : String} {S : List Kd} {G : Gw} {n fr lo : Nat} {σ : St} {pc : Nat} {L : List (Nat × Value)} {st : List Value} (X : Cx E cc own S G n fr lo) {β : Type} {K : β → St → Prop} {i : Nat} {v : Int} {g : Int → Rs β} {L1 : Int → List (Nat × Value)} {R : Int → Prop} (hd : decode cc pc = .ok (.istore i, 2)) (hn : i < n) (h : ∀ x, (i, Value.int (pI x)) :: L.filter (fun q => !(q.1 == i) && !(q.1 + 1 == i && q.2.category == 2)) = L1 x) (o : Ok (lb v g) K) (hr : R v) (k : ∀ x, R x → Ok (g x) K → At E σ (pc + 2) (L1 x) st) : At E σ pc L (.int (pI v) :: st) := by
  obtain ⟨p, l, e, R, s, m, args, below, meth, c, Q, S', G', n'⟩ := E
  obtain ⟨rfl, rfl, rfl, hx, hb, hml, hown, hts, hK, hD, hN, hSk, hR⟩ := X
  intro H locs ls hP hS hg hl
  exact lv_istore hx hb hd hl hn (h v) (fun ls1 hl1 => k v hr o H locs ls1 hP hS hg hl1)
theorem z_lstoreL_n {E : ET} {cc : ByteArray} {own : String} {S : List Kd} {G : Gw} {n fr lo : Nat} {σ : St} {pc : Nat} {L : List (Nat × Value)} {st : List Value} (X : Cx E cc own S G n fr lo) {β : Type} {K : β → St → Prop} {q : Fin 4} {i : Nat} {v : Int} {g : Int → Rs β} {L1 : Int → List (Nat × Value)} {R : Int → Prop} (hd : decode cc pc = .ok (.lstore_n q, 1)) (hi : (q : Nat) = i) (hn : i + 1 < n) (h : ∀ x, (i, Value.long (pJ x)) :: L.filter (fun q => !(q.1 == i) && (!(q.1 == i + 1) && !(q.1 + 1 == i && q.2.category == 2))) = L1 x) (o : Ok (lb v g) K) (hr : R v) (k : ∀ x, R x → Ok (g x) K → At E σ (pc + 1) (L1 x) st) : At E σ pc L (.long (pJ v) :: st) := by
  obtain ⟨p, l, e, R, s, m, args, below, meth, c, Q, S', G', n'⟩ := E
  obtain ⟨rfl, rfl, rfl, hx, hb, hml, hown, hts, hK, hD, hN, hSk, hR⟩ := X
  intro H locs ls hP hS hg hl
  exact lv_lstore_n hx hb hd hi hl hn (h v) (fun ls1 hl1 => k v hr o H locs ls1 hP hS hg hl1)
theorem z_lstoreL {E : ET} {cc : ByteArray} {own : String} {S : List Kd} {G : Gw} {n fr lo : Nat} {σ : St} {pc : Nat} {L : List (Nat × Value)} {st : List Value} (X : Cx E cc own S G n fr lo) {β : Type} {K : β → St → Prop} {i : Nat} {v : Int} {g : Int → Rs β} {L1 : Int → List (Nat × Value)} {R : Int → Prop} (hd : decode cc pc = .ok (.lstore i, 2)) (hn : i + 1 < n) (h : ∀ x, (i, Value.long (pJ x)) :: L.filter (fun q => !(q.1 == i) && (!(q.1 == i + 1) && !(q.1 + 1 == i && q.2.category == 2))) = L1 x) (o : Ok (lb v g) K) (hr : R v) (k : ∀ x, R x → Ok (g x) K → At E σ (pc + 2) (L1 x) st) : At E σ pc L (.long (pJ v) :: st) := by
  obtain ⟨p, l, e, R, s, m, args, below, meth, c, Q, S', G', n'⟩ := E
  obtain ⟨rfl, rfl, rfl, hx, hb, hml, hown, hts, hK, hD, hN, hSk, hR⟩ := X
  intro H locs ls hP hS hg hl
  exact lv_lstore hx hb hd hl hn (h v) (fun ls1 hl1 => k v hr o H locs ls1 hP hS hg hl1)
theorem pI_nar_c {v : Int} (h : 0 ≤ v ∧ v ≤ 65535) : narrow .char (.int (pI v)) = .int (pI v) := by
  show Value.int _ = _
  congr 1
  have hu : (pI v).toUInt32.toNat = v.toNat := by
    show (BitVec.ofInt 32 v).toNat = v.toNat
    rw [BitVec.toNat_ofInt]
    omega
  have e : (pI v).toUInt32.toUInt16.toUInt32 = (pI v).toUInt32 := by
    apply UInt32.toNat.inj
    simp [hu]
    omega
  show (pI v).toUInt32.toUInt16.toUInt32.toInt32 = pI v
  rw [e]
  simp
theorem z_cret {E : ET} {cc : ByteArray} {own : String} {S : List Kd} {G : Gw} {n fr lo : Nat} {σ : St} {pc : Nat} (X : Cx E cc own S G n fr lo) {r v : Int} {pr : Int → Prop} {σ1 : St} {L : List (Nat × Value)} (Y : Rt E S G (some .char) (QI S G r pr σ1)) (hd : decode cc pc = .ok (.ireturn, 1)) (o : Ok (some (v, σ)) (fun x σ' => x = r ∧ σ' = σ1)) (hv : pr v) (hv2 : 0 ≤ v ∧ v ≤ 65535) : At E σ pc L [.int (pI v)] := by
  obtain ⟨p, l, e, R, s, m, args, below, meth, c, Q, S', G', n'⟩ := E
  obtain ⟨rfl, rfl, rfl, hx, hb, hml, hown, hts, hK, hD, hN, hSk, hR⟩ := X
  obtain ⟨rfl, hr, hlocks⟩ := Y
  obtain ⟨rfl, rfl⟩ := ok_some o
  intro H locs ls hP hS hg hl
  exact W.zret hx hb hr (pI_nar_c hv2) (fun t ht hW => ⟨⟨_, (), rfl, ⟨rfl, hv⟩, by rw [ht]; exact hP, hg⟩, hS.F ht⟩) hS.2.2 hd
theorem pI_nar_b {v : Int} (h : -128 ≤ v ∧ v ≤ 127) : narrow .byte (.int (pI v)) = .int (pI v) := by
  show Value.int _ = _
  congr 1
  exact nar_byte h
theorem z_btret {E : ET} {cc : ByteArray} {own : String} {S : List Kd} {G : Gw} {n fr lo : Nat} {σ : St} {pc : Nat} (X : Cx E cc own S G n fr lo) {r v : Int} {pr : Int → Prop} {σ1 : St} {L : List (Nat × Value)} (Y : Rt E S G (some .byte) (QI S G r pr σ1)) (hd : decode cc pc = .ok (.ireturn, 1)) (o : Ok (some (v, σ)) (fun x σ' => x = r ∧ σ' = σ1)) (hv : pr v) (hv2 : -128 ≤ v ∧ v ≤ 127) : At E σ pc L [.int (pI v)] := by
  obtain ⟨p, l, e, R, s, m, args, below, meth, c, Q, S', G', n'⟩ := E
  obtain ⟨rfl, rfl, rfl, hx, hb, hml, hown, hts, hK, hD, hN, hSk, hR⟩ := X
  obtain ⟨rfl, hr, hlocks⟩ := Y
  obtain ⟨rfl, rfl⟩ := ok_some o
  intro H locs ls hP hS hg hl
  exact W.zret hx hb hr (pI_nar_b hv2) (fun t ht hW => ⟨⟨_, (), rfl, ⟨rfl, hv⟩, by rw [ht]; exact hP, hg⟩, hS.F ht⟩) hS.2.2 hd
theorem z_callsv {E : ET} {cc : ByteArray} {own : String} {S : List Kd} {G : Gw} {n fr lo : Nat} {σ : St} {pc : Nat} {L : List (Nat × Value)} {st : List Value} (X : Cx E cc own S G n fr lo) {β : Type} {K : β → St → Prop} {idx na n1 fr1 lo1 : Nat} {y : MethodName} {b1 : ByteArray} {ret1 : Option FieldType} {h : Rs Int} {kf : Int → St → Rs β} {pr : Int → Prop} (hd : decode cc pc = .ok (.invokevirtual idx, 3)) (hlk : Cond.methodLink own idx y ∈ tbl) (w : WV y b1 n1 ret1 na) {i : Nat} (hi : i < 28) (hcs : y.cls = "java/lang/String") (hR : fr1 + 1 ≤ fr ∧ 8 + (n1 + 11) + lo1 ≤ lo) (As rest : List Value) (hst : st = As.reverse ++ .ref (G.2.2.2.1 i) :: rest) (hna : As.length = na) (hrm : (rest.map fun v => v.category).sum ≤ 8) (hct : ∀ r σ1, h = some (r, σ1) → Ct y b1 n1 ret1 fr1 lo1 S G (.ref (G.2.2.2.1 i) :: As) σ (QI S G r pr σ1)) (o : Ok (bnd h kf) K) (kk : ∀ r σ1, pr r → Ok (kf r σ1) K → At E σ1 (pc + 3) L (.int (pI r) :: rest)) : At E σ pc L st := by
  obtain ⟨p, l, e, R, s, m, args, below, meth, c, Q, S', G', n'⟩ := E
  obtain ⟨rfl, rfl, rfl, hx, hb, hml, hown, hts, hK, hD, hN, hSk, hR0⟩ := X
  intro H locs ls hP hS hg hl
  subst hst
  subst hR0
  obtain ⟨r, σ1, e1, o⟩ := ok_bnd o
  have hc1 := hct r σ1 e1
  refine va_calli (va_runV (As := As) (rest := rest) ⟨hx, hb, hml, hown, hts⟩ (hc1 l H.size) (cwV na hts (gdV w hlk) rfl rfl rfl ⟨rfl, w.2.2.2.2⟩ hR) ⟨pw_blind, (hcs ▸ vk_recv hSk.1 hi hS), fun U hU hW => ⟨rfl, by rw [hU], by rw [hU]; exact hP, va_K.moved hW.alike hK, ⟨(hD σ).1, fun _ _ _ => trivial⟩, hg, hN.warm hW, hSk.go hS hU hW (aA_sub hS.1)⟩⟩ rfl hna hl.1 rfl (lv_room hrm) hd ⟨Nat.zero_le _, Nat.zero_le _⟩) hS (fun q _ hq => aA_sub hS.1 q hq) (fun q hq => aA_sub hS.1 q hq) (fun r32 u t H1 locs1 ht hvm hw hB hz1 hk1 hS1 => ?_)
  obtain ⟨rfl, hpr⟩ := hw
  obtain ⟨hP1, hg1⟩ := hB
  rw [ht] at hP1
  exact kk r σ1 hpr o H1 locs1 ls hP1 hS1 hg1 hl
theorem z_callvRc {E : ET} {cc : ByteArray} {own : String} {S : List Kd} {G : Gw} {n fr lo : Nat} {σ : St} {pc : Nat} {L : List (Nat × Value)} {st : List Value} (X : Cx E cc own S G n fr lo) {β : Type} {K : β → St → Prop} {idx na n1 fr1 lo1 : Nat} {y : MethodName} {b1 : ByteArray} {ret1 : Option FieldType} {h : Rs Int} {kf : Int → St → Rs β} {pr : Int → Prop} (hd : decode cc pc = .ok (.invokevirtual idx, 3)) (hlk : Cond.methodLink own idx y ∈ tbl) (w : WV y b1 n1 ret1 na) {q : Nat} (hq : ∀ r, pr r → r = (q : Int)) {k ci : Nat} {fs : List Nat} {T : u_T} {N : Nat} (hk : S[k]? = some (.inr (.inl (ci, fs)))) (hc : vwCl[ci]? = some (y.cls, T, N)) (hR : fr1 + 1 ≤ fr ∧ 8 + (n1 + 11) + lo1 ≤ lo) (As rest : List Value) (hst : st = As.reverse ++ .ref (G.2.2.1 k) :: rest) (hna : As.length = na) (hrm : (rest.map fun v => v.category).sum ≤ 8) (hct : ∀ r σ1, h = some (r, σ1) → Ct y b1 n1 ret1 fr1 lo1 S G (.ref (G.2.2.1 k) :: As) σ (QR S G r pr σ1)) (o : Ok (bnd h kf) K) (kk : ∀ σ1, Ok (kf (q : Int) σ1) K → At E σ1 (pc + 3) L (.ref (G.2.2.1 q) :: rest)) : At E σ pc L st := by
  obtain ⟨p, l, e, R, s, m, args, below, meth, c, Q, S', G', n'⟩ := E
  obtain ⟨rfl, rfl, rfl, hx, hb, hml, hown, hts, hK, hD, hN, hSk, hR0⟩ := X
  intro H locs ls hP hS hg hl
  subst hst
  subst hR0
  obtain ⟨r, σ1, e1, o⟩ := ok_bnd o
  have hc1 := hct r σ1 e1
  refine va_callr (va_runV (As := As) (rest := rest) ⟨hx, hb, hml, hown, hts⟩ (hc1 l H.size) (cwV na hts (gdV w hlk) rfl rfl rfl ⟨rfl, w.2.2.2.2⟩ hR) ⟨pw_blind, va_recv hK hP hc (lay_obj hk), fun U hU hW => ⟨rfl, by rw [hU], by rw [hU]; exact hP, va_K.moved hW.alike hK, ⟨(hD σ).1, fun _ _ _ => trivial⟩, hg, hN.warm hW, hSk.go hS hU hW (aA_sub hS.1)⟩⟩ rfl hna hl.1 rfl (lv_room hrm) hd ⟨Nat.zero_le _, Nat.zero_le _⟩) hS (fun q _ hq => aA_sub hS.1 q hq) (fun q hq => aA_sub hS.1 q hq) (fun u ra t H1 locs1 ht hvm hw hB hz1 hk1 hS1 => ?_)
  obtain ⟨rfl, hP1, hg1⟩ := hB
  rw [ht] at hP1
  obtain rfl := hq r hw
  exact kk σ1 o H1 locs1 ls hP1 hS1 hg1 hl
