theorem z_iconst {E : ET} {cc : ByteArray} {own : String} {S : List Kd} {G : Gw} {n fr lo : Nat} {σ : St} {pc : Nat} {L : List (Nat × Value)} {st : List Value} (X : Cx E cc own S G n fr lo) {a : Int} (hd : decode cc pc = .ok (.iconst a, 1)) (k : At E σ (pc + 1) L (.int (pI a) :: st)) : At E σ pc L st := by
  obtain ⟨p, l, e, R, s, m, args, below, meth, c, Q, S', G', n'⟩ := E
  obtain ⟨rfl, rfl, rfl, hx, hb, hml, hown, hts, hK, hD, hN, hSk, hR⟩ := X
  intro H locs ls hP hS hg hl
  exact lv_iconst hx hb hd rfl (k H locs ls hP hS hg hl)
theorem z_bipush {E : ET} {cc : ByteArray} {own : String} {S : List Kd} {G : Gw} {n fr lo : Nat} {σ : St} {pc : Nat} {L : List (Nat × Value)} {st : List Value} (X : Cx E cc own S G n fr lo) {a : Int} (hd : decode cc pc = .ok (.bipush a, 2)) (ha : (Int8.ofInt a).toInt32 = pI a) (k : At E σ (pc + 2) L (.int (pI a) :: st)) : At E σ pc L st := by
  obtain ⟨p, l, e, R, s, m, args, below, meth, c, Q, S', G', n'⟩ := E
  obtain ⟨rfl, rfl, rfl, hx, hb, hml, hown, hts, hK, hD, hN, hSk, hR⟩ := X
  intro H locs ls hP hS hg hl
  exact lv_bipush hx hb hd ha (k H locs ls hP hS hg hl)
theorem z_sipush {E : ET} {cc : ByteArray} {own : String} {S : List Kd} {G : Gw} {n fr lo : Nat} {σ : St} {pc : Nat} {L : List (Nat × Value)} {st : List Value} (X : Cx E cc own S G n fr lo) {a : Int} (hd : decode cc pc = .ok (.sipush a, 3)) (ha : (Int16.ofInt a).toInt32 = pI a) (k : At E σ (pc + 3) L (.int (pI a) :: st)) : At E σ pc L st := by
  obtain ⟨p, l, e, R, s, m, args, below, meth, c, Q, S', G', n'⟩ := E
  obtain ⟨rfl, rfl, rfl, hx, hb, hml, hown, hts, hK, hD, hN, hSk, hR⟩ := X
  intro H locs ls hP hS hg hl
  exact lv_sipush hx hb hd ha (k H locs ls hP hS hg hl)
theorem z_ldc {E : ET} {cc : ByteArray} {own : String} {S : List Kd} {G : Gw} {n fr lo : Nat} {σ : St} {pc : Nat} {L : List (Nat × Value)} {st : List Value} (X : Cx E cc own S G n fr lo) {a : Int} {v : Int32} {idx : Nat} (hd : decode cc pc = .ok (.ldc idx, 2)) (hw : Cond.constant own idx v ∈ tbl) (ha : v = pI a) (k : At E σ (pc + 2) L (.int (pI a) :: st)) : At E σ pc L st := by
  obtain ⟨p, l, e, R, s, m, args, below, meth, c, Q, S', G', n'⟩ := E
  obtain ⟨rfl, rfl, rfl, hx, hb, hml, hown, hts, hK, hD, hN, hSk, hR⟩ := X
  intro H locs ls hP hS hg hl
  subst ha
  exact lv_ldc hx hb hown (hts _ hw) hd (k H locs ls hP hS hg hl)
theorem z_ldcw {E : ET} {cc : ByteArray} {own : String} {S : List Kd} {G : Gw} {n fr lo : Nat} {σ : St} {pc : Nat} {L : List (Nat × Value)} {st : List Value} (X : Cx E cc own S G n fr lo) {a : Int} {v : Int32} {idx : Nat} (hd : decode cc pc = .ok (.ldc_w idx, 3)) (hw : Cond.constant own idx v ∈ tbl) (ha : v = pI a) (k : At E σ (pc + 3) L (.int (pI a) :: st)) : At E σ pc L st := by
  obtain ⟨p, l, e, R, s, m, args, below, meth, c, Q, S', G', n'⟩ := E
  obtain ⟨rfl, rfl, rfl, hx, hb, hml, hown, hts, hK, hD, hN, hSk, hR⟩ := X
  intro H locs ls hP hS hg hl
  subst ha
  exact lv_ldcw hx hb hown (hts _ hw) hd (k H locs ls hP hS hg hl)
theorem z_ldc2 {E : ET} {cc : ByteArray} {own : String} {S : List Kd} {G : Gw} {n fr lo : Nat} {σ : St} {pc : Nat} {L : List (Nat × Value)} {st : List Value} (X : Cx E cc own S G n fr lo) {a : Int} {v : Int64} {idx : Nat} (hd : decode cc pc = .ok (.ldc2_w idx, 3)) (hw : Cond.constantLong own idx v ∈ tbl) (ha : v = pJ a) (k : At E σ (pc + 3) L (.long (pJ a) :: st)) : At E σ pc L st := by
  obtain ⟨p, l, e, R, s, m, args, below, meth, c, Q, S', G', n'⟩ := E
  obtain ⟨rfl, rfl, rfl, hx, hb, hml, hown, hts, hK, hD, hN, hSk, hR⟩ := X
  intro H locs ls hP hS hg hl
  subst ha
  exact lv_ldc2 hx hb hown (hts _ hw) hd (k H locs ls hP hS hg hl)
theorem z_lconst {E : ET} {cc : ByteArray} {own : String} {S : List Kd} {G : Gw} {n fr lo : Nat} {σ : St} {pc : Nat} {L : List (Nat × Value)} {st : List Value} (X : Cx E cc own S G n fr lo) {a : Int} {q : Fin 2} (hd : decode cc pc = .ok (.lconst q, 1)) (ha : Int64.ofNat (q : Nat) = pJ a) (k : At E σ (pc + 1) L (.long (pJ a) :: st)) : At E σ pc L st := by
  obtain ⟨p, l, e, R, s, m, args, below, meth, c, Q, S', G', n'⟩ := E
  obtain ⟨rfl, rfl, rfl, hx, hb, hml, hown, hts, hK, hD, hN, hSk, hR⟩ := X
  intro H locs ls hP hS hg hl
  exact lv_lconst hx hb hd ha (k H locs ls hP hS hg hl)
theorem z_iload_n {E : ET} {cc : ByteArray} {own : String} {S : List Kd} {G : Gw} {n fr lo : Nat} {σ : St} {pc : Nat} {L : List (Nat × Value)} {st : List Value} (X : Cx E cc own S G n fr lo) {q : Fin 4} {x : Int32} (i : Nat) (hd : decode cc pc = .ok (.iload_n q, 1)) (h : L[i]? = some ((q : Nat), .int x)) (k : At E σ (pc + 1) L (.int x :: st)) : At E σ pc L st := by
  obtain ⟨p, l, e, R, s, m, args, below, meth, c, Q, S', G', n'⟩ := E
  obtain ⟨rfl, rfl, rfl, hx, hb, hml, hown, hts, hK, hD, hN, hSk, hR⟩ := X
  intro H locs ls hP hS hg hl
  exact lv_iload_n hx hb hd rfl (lv_at hl i h) (k H locs ls hP hS hg hl)
theorem z_iload {E : ET} {cc : ByteArray} {own : String} {S : List Kd} {G : Gw} {n fr lo : Nat} {σ : St} {pc : Nat} {L : List (Nat × Value)} {st : List Value} (X : Cx E cc own S G n fr lo) {q : Nat} {x : Int32} (i : Nat) (hd : decode cc pc = .ok (.iload q, 2)) (h : L[i]? = some (q, .int x)) (k : At E σ (pc + 2) L (.int x :: st)) : At E σ pc L st := by
  obtain ⟨p, l, e, R, s, m, args, below, meth, c, Q, S', G', n'⟩ := E
  obtain ⟨rfl, rfl, rfl, hx, hb, hml, hown, hts, hK, hD, hN, hSk, hR⟩ := X
  intro H locs ls hP hS hg hl
  exact lv_iload hx hb hd (lv_at hl i h) (k H locs ls hP hS hg hl)
theorem z_lload_n {E : ET} {cc : ByteArray} {own : String} {S : List Kd} {G : Gw} {n fr lo : Nat} {σ : St} {pc : Nat} {L : List (Nat × Value)} {st : List Value} (X : Cx E cc own S G n fr lo) {q : Fin 4} {x : Int64} (i : Nat) (hd : decode cc pc = .ok (.lload_n q, 1)) (h : L[i]? = some ((q : Nat), .long x)) (k : At E σ (pc + 1) L (.long x :: st)) : At E σ pc L st := by
  obtain ⟨p, l, e, R, s, m, args, below, meth, c, Q, S', G', n'⟩ := E
  obtain ⟨rfl, rfl, rfl, hx, hb, hml, hown, hts, hK, hD, hN, hSk, hR⟩ := X
  intro H locs ls hP hS hg hl
  exact lv_lload_n hx hb hd rfl (lv_at hl i h) (k H locs ls hP hS hg hl)
theorem z_lload {E : ET} {cc : ByteArray} {own : String} {S : List Kd} {G : Gw} {n fr lo : Nat} {σ : St} {pc : Nat} {L : List (Nat × Value)} {st : List Value} (X : Cx E cc own S G n fr lo) {q : Nat} {x : Int64} (i : Nat) (hd : decode cc pc = .ok (.lload q, 2)) (h : L[i]? = some (q, .long x)) (k : At E σ (pc + 2) L (.long x :: st)) : At E σ pc L st := by
  obtain ⟨p, l, e, R, s, m, args, below, meth, c, Q, S', G', n'⟩ := E
  obtain ⟨rfl, rfl, rfl, hx, hb, hml, hown, hts, hK, hD, hN, hSk, hR⟩ := X
  intro H locs ls hP hS hg hl
  exact lv_lload hx hb hd (lv_at hl i h) (k H locs ls hP hS hg hl)
theorem z_aload_n {E : ET} {cc : ByteArray} {own : String} {S : List Kd} {G : Gw} {n fr lo : Nat} {σ : St} {pc : Nat} {L : List (Nat × Value)} {st : List Value} (X : Cx E cc own S G n fr lo) {q : Fin 4} {x : Nat} (i : Nat) (hd : decode cc pc = .ok (.aload_n q, 1)) (h : L[i]? = some ((q : Nat), .ref x)) (k : At E σ (pc + 1) L (.ref x :: st)) : At E σ pc L st := by
  obtain ⟨p, l, e, R, s, m, args, below, meth, c, Q, S', G', n'⟩ := E
  obtain ⟨rfl, rfl, rfl, hx, hb, hml, hown, hts, hK, hD, hN, hSk, hR⟩ := X
  intro H locs ls hP hS hg hl
  exact lv_aload_n hx hb hd rfl (lv_at hl i h) (k H locs ls hP hS hg hl)
theorem z_aload {E : ET} {cc : ByteArray} {own : String} {S : List Kd} {G : Gw} {n fr lo : Nat} {σ : St} {pc : Nat} {L : List (Nat × Value)} {st : List Value} (X : Cx E cc own S G n fr lo) {q : Nat} {x : Nat} (i : Nat) (hd : decode cc pc = .ok (.aload q, 2)) (h : L[i]? = some (q, .ref x)) (k : At E σ (pc + 2) L (.ref x :: st)) : At E σ pc L st := by
  obtain ⟨p, l, e, R, s, m, args, below, meth, c, Q, S', G', n'⟩ := E
  obtain ⟨rfl, rfl, rfl, hx, hb, hml, hown, hts, hK, hD, hN, hSk, hR⟩ := X
  intro H locs ls hP hS hg hl
  exact lv_aload hx hb hd (lv_at hl i h) (k H locs ls hP hS hg hl)
theorem z_istore_n {E : ET} {cc : ByteArray} {own : String} {S : List Kd} {G : Gw} {n fr lo : Nat} {σ : St} {pc : Nat} {L : List (Nat × Value)} {st : List Value} (X : Cx E cc own S G n fr lo) {q : Fin 4} {i : Nat} {x : Int32} {L1 : List (Nat × Value)} (hd : decode cc pc = .ok (.istore_n q, 1)) (hi : (q : Nat) = i) (hn : i < n) (h : (i, Value.int x) :: L.filter (fun q => !(q.1 == i) && !(q.1 + 1 == i && q.2.category == 2)) = L1) (k : At E σ (pc + 1) L1 st) : At E σ pc L (.int x :: st) := by
  obtain ⟨p, l, e, R, s, m, args, below, meth, c, Q, S', G', n'⟩ := E
  obtain ⟨rfl, rfl, rfl, hx, hb, hml, hown, hts, hK, hD, hN, hSk, hR⟩ := X
  intro H locs ls hP hS hg hl
  exact lv_istore_n hx hb hd hi hl hn h (fun ls1 hl1 => k H locs ls1 hP hS hg hl1)
theorem z_istore {E : ET} {cc : ByteArray} {own : String} {S : List Kd} {G : Gw} {n fr lo : Nat} {σ : St} {pc : Nat} {L : List (Nat × Value)} {st : List Value} (X : Cx E cc own S G n fr lo) {i : Nat} {x : Int32} {L1 : List (Nat × Value)} (hd : decode cc pc = .ok (.istore i, 2)) (hn : i < n) (h : (i, Value.int x) :: L.filter (fun q => !(q.1 == i) && !(q.1 + 1 == i && q.2.category == 2)) = L1) (k : At E σ (pc + 2) L1 st) : At E σ pc L (.int x :: st) := by
  obtain ⟨p, l, e, R, s, m, args, below, meth, c, Q, S', G', n'⟩ := E
  obtain ⟨rfl, rfl, rfl, hx, hb, hml, hown, hts, hK, hD, hN, hSk, hR⟩ := X
  intro H locs ls hP hS hg hl
  exact lv_istore hx hb hd hl hn h (fun ls1 hl1 => k H locs ls1 hP hS hg hl1)
theorem z_lstore_n {E : ET} {cc : ByteArray} {own : String} {S : List Kd} {G : Gw} {n fr lo : Nat} {σ : St} {pc : Nat} {L : List (Nat × Value)} {st : List Value} (X : Cx E cc own S G n fr lo) {q : Fin 4} {i : Nat} {x : Int64} {L1 : List (Nat × Value)} (hd : decode cc pc = .ok (.lstore_n q, 1)) (hi : (q : Nat) = i) (hn : i + 1 < n) (h : (i, Value.long x) :: L.filter (fun q => !(q.1 == i) && (!(q.1 == i + 1) && !(q.1 + 1 == i && q.2.category == 2))) = L1) (k : At E σ (pc + 1) L1 st) : At E σ pc L (.long x :: st) := by
  obtain ⟨p, l, e, R, s, m, args, below, meth, c, Q, S', G', n'⟩ := E
  obtain ⟨rfl, rfl, rfl, hx, hb, hml, hown, hts, hK, hD, hN, hSk, hR⟩ := X
  intro H locs ls hP hS hg hl
  exact lv_lstore_n hx hb hd hi hl hn h (fun ls1 hl1 => k H locs ls1 hP hS hg hl1)
theorem z_lstore {E : ET} {cc : ByteArray} {own : String} {S : List Kd} {G : Gw} {n fr lo : Nat} {σ : St} {pc : Nat} {L : List (Nat × Value)} {st : List Value} (X : Cx E cc own S G n fr lo) {i : Nat} {x : Int64} {L1 : List (Nat × Value)} (hd : decode cc pc = .ok (.lstore i, 2)) (hn : i + 1 < n) (h : (i, Value.long x) :: L.filter (fun q => !(q.1 == i) && (!(q.1 == i + 1) && !(q.1 + 1 == i && q.2.category == 2))) = L1) (k : At E σ (pc + 2) L1 st) : At E σ pc L (.long x :: st) := by
  obtain ⟨p, l, e, R, s, m, args, below, meth, c, Q, S', G', n'⟩ := E
  obtain ⟨rfl, rfl, rfl, hx, hb, hml, hown, hts, hK, hD, hN, hSk, hR⟩ := X
  intro H locs ls hP hS hg hl
  exact lv_lstore hx hb hd hl hn h (fun ls1 hl1 => k H locs ls1 hP hS hg hl1)
theorem z_astore_n {E : ET} {cc : ByteArray} {own : String} {S : List Kd} {G : Gw} {n fr lo : Nat} {σ : St} {pc : Nat} {L : List (Nat × Value)} {st : List Value} (X : Cx E cc own S G n fr lo) {q : Fin 4} {i : Nat} {x : Nat} {L1 : List (Nat × Value)} (hd : decode cc pc = .ok (.astore_n q, 1)) (hi : (q : Nat) = i) (hn : i < n) (h : (i, Value.ref x) :: L.filter (fun q => !(q.1 == i) && !(q.1 + 1 == i && q.2.category == 2)) = L1) (k : At E σ (pc + 1) L1 st) : At E σ pc L (.ref x :: st) := by
  obtain ⟨p, l, e, R, s, m, args, below, meth, c, Q, S', G', n'⟩ := E
  obtain ⟨rfl, rfl, rfl, hx, hb, hml, hown, hts, hK, hD, hN, hSk, hR⟩ := X
  intro H locs ls hP hS hg hl
  exact lv_astore_n hx hb hd hi hl hn h (fun ls1 hl1 => k H locs ls1 hP hS hg hl1)
theorem z_astore {E : ET} {cc : ByteArray} {own : String} {S : List Kd} {G : Gw} {n fr lo : Nat} {σ : St} {pc : Nat} {L : List (Nat × Value)} {st : List Value} (X : Cx E cc own S G n fr lo) {i : Nat} {x : Nat} {L1 : List (Nat × Value)} (hd : decode cc pc = .ok (.astore i, 2)) (hn : i < n) (h : (i, Value.ref x) :: L.filter (fun q => !(q.1 == i) && !(q.1 + 1 == i && q.2.category == 2)) = L1) (k : At E σ (pc + 2) L1 st) : At E σ pc L (.ref x :: st) := by
  obtain ⟨p, l, e, R, s, m, args, below, meth, c, Q, S', G', n'⟩ := E
  obtain ⟨rfl, rfl, rfl, hx, hb, hml, hown, hts, hK, hD, hN, hSk, hR⟩ := X
  intro H locs ls hP hS hg hl
  exact lv_astore hx hb hd hl hn h (fun ls1 hl1 => k H locs ls1 hP hS hg hl1)
theorem z_iinc {E : ET} {cc : ByteArray} {own : String} {S : List Kd} {G : Gw} {n fr lo : Nat} {σ : St} {pc : Nat} {L : List (Nat × Value)} {st : List Value} (X : Cx E cc own S G n fr lo) {i : Nat} {d a : Int} {L1 : List (Nat × Value)} (j : Nat) (hd : decode cc pc = .ok (.iinc i d, 3)) (hj : L[j]? = some (i, .int (pI a))) (hn : i < n) (h : (i, Value.int (pI (w32 (a + d)))) :: L.filter (fun q => !(q.1 == i) && !(q.1 + 1 == i && q.2.category == 2)) = L1) (k : At E σ (pc + 3) L1 st) : At E σ pc L st := by
  obtain ⟨p, l, e, R, s, m, args, below, meth, c, Q, S', G', n'⟩ := E
  obtain ⟨rfl, rfl, rfl, hx, hb, hml, hown, hts, hK, hD, hN, hSk, hR⟩ := X
  intro H locs ls hP hS hg hl
  exact lv_iinc hx hb hd hl hj (by rw [← pI_add]; rfl) hn h (fun ls1 hl1 => k H locs ls1 hP hS hg hl1)
theorem z_iadd {E : ET} {cc : ByteArray} {own : String} {S : List Kd} {G : Gw} {n fr lo : Nat} {σ : St} {pc : Nat} {L : List (Nat × Value)} {st : List Value} (X : Cx E cc own S G n fr lo) {a b : Int} (hd : decode cc pc = .ok (.iadd, 1)) (k : At E σ (pc + 1) L (.int (pI (w32 (a + b))) :: st)) : At E σ pc L (.int (pI b) :: .int (pI a) :: st) := by
  obtain ⟨p, l, e, R, s, m, args, below, meth, c, Q, S', G', n'⟩ := E
  obtain ⟨rfl, rfl, rfl, hx, hb, hml, hown, hts, hK, hD, hN, hSk, hR⟩ := X
  intro H locs ls hP hS hg hl
  rw [← pI_add] at k
  exact lv_iadd hx hb hd (k H locs ls hP hS hg hl)
theorem z_isub {E : ET} {cc : ByteArray} {own : String} {S : List Kd} {G : Gw} {n fr lo : Nat} {σ : St} {pc : Nat} {L : List (Nat × Value)} {st : List Value} (X : Cx E cc own S G n fr lo) {a b : Int} (hd : decode cc pc = .ok (.isub, 1)) (k : At E σ (pc + 1) L (.int (pI (w32 (a - b))) :: st)) : At E σ pc L (.int (pI b) :: .int (pI a) :: st) := by
  obtain ⟨p, l, e, R, s, m, args, below, meth, c, Q, S', G', n'⟩ := E
  obtain ⟨rfl, rfl, rfl, hx, hb, hml, hown, hts, hK, hD, hN, hSk, hR⟩ := X
  intro H locs ls hP hS hg hl
  rw [← pI_sub] at k
  exact lv_isub hx hb hd (k H locs ls hP hS hg hl)
theorem z_imul {E : ET} {cc : ByteArray} {own : String} {S : List Kd} {G : Gw} {n fr lo : Nat} {σ : St} {pc : Nat} {L : List (Nat × Value)} {st : List Value} (X : Cx E cc own S G n fr lo) {a b : Int} (hd : decode cc pc = .ok (.imul, 1)) (k : At E σ (pc + 1) L (.int (pI (w32 (a * b))) :: st)) : At E σ pc L (.int (pI b) :: .int (pI a) :: st) := by
  obtain ⟨p, l, e, R, s, m, args, below, meth, c, Q, S', G', n'⟩ := E
  obtain ⟨rfl, rfl, rfl, hx, hb, hml, hown, hts, hK, hD, hN, hSk, hR⟩ := X
  intro H locs ls hP hS hg hl
  rw [← pI_mul] at k
  exact lv_imul hx hb hd (k H locs ls hP hS hg hl)
theorem z_ladd {E : ET} {cc : ByteArray} {own : String} {S : List Kd} {G : Gw} {n fr lo : Nat} {σ : St} {pc : Nat} {L : List (Nat × Value)} {st : List Value} (X : Cx E cc own S G n fr lo) {a b : Int} (hd : decode cc pc = .ok (.ladd, 1)) (k : At E σ (pc + 1) L (.long (pJ (w64 (a + b))) :: st)) : At E σ pc L (.long (pJ b) :: .long (pJ a) :: st) := by
  obtain ⟨p, l, e, R, s, m, args, below, meth, c, Q, S', G', n'⟩ := E
  obtain ⟨rfl, rfl, rfl, hx, hb, hml, hown, hts, hK, hD, hN, hSk, hR⟩ := X
  intro H locs ls hP hS hg hl
  rw [← pJ_add] at k
  exact lv_ladd hx hb hd (k H locs ls hP hS hg hl)
theorem z_lsub {E : ET} {cc : ByteArray} {own : String} {S : List Kd} {G : Gw} {n fr lo : Nat} {σ : St} {pc : Nat} {L : List (Nat × Value)} {st : List Value} (X : Cx E cc own S G n fr lo) {a b : Int} (hd : decode cc pc = .ok (.lsub, 1)) (k : At E σ (pc + 1) L (.long (pJ (w64 (a - b))) :: st)) : At E σ pc L (.long (pJ b) :: .long (pJ a) :: st) := by
  obtain ⟨p, l, e, R, s, m, args, below, meth, c, Q, S', G', n'⟩ := E
  obtain ⟨rfl, rfl, rfl, hx, hb, hml, hown, hts, hK, hD, hN, hSk, hR⟩ := X
  intro H locs ls hP hS hg hl
  rw [← pJ_sub] at k
  exact lv_lsub hx hb hd (k H locs ls hP hS hg hl)
theorem z_lmul {E : ET} {cc : ByteArray} {own : String} {S : List Kd} {G : Gw} {n fr lo : Nat} {σ : St} {pc : Nat} {L : List (Nat × Value)} {st : List Value} (X : Cx E cc own S G n fr lo) {a b : Int} (hd : decode cc pc = .ok (.lmul, 1)) (k : At E σ (pc + 1) L (.long (pJ (w64 (a * b))) :: st)) : At E σ pc L (.long (pJ b) :: .long (pJ a) :: st) := by
  obtain ⟨p, l, e, R, s, m, args, below, meth, c, Q, S', G', n'⟩ := E
  obtain ⟨rfl, rfl, rfl, hx, hb, hml, hown, hts, hK, hD, hN, hSk, hR⟩ := X
  intro H locs ls hP hS hg hl
  rw [← pJ_mul] at k
  exact lv_lmul hx hb hd (k H locs ls hP hS hg hl)
theorem z_idiv {E : ET} {cc : ByteArray} {own : String} {S : List Kd} {G : Gw} {n fr lo : Nat} {σ : St} {pc : Nat} {L : List (Nat × Value)} {st : List Value} (X : Cx E cc own S G n fr lo) {β : Type} {K : β → St → Prop} {a b : Int} {g : Rs β} (hd : decode cc pc = .ok (.idiv, 1)) (ra : rg a) (rb : rg b) (o : Ok (dvc b g) K) (k : b ≠ 0 → Ok g K → At E σ (pc + 1) L (.int (pI (idv a b)) :: st)) : At E σ pc L (.int (pI b) :: .int (pI a) :: st) := by
  obtain ⟨p, l, e, R, s, m, args, below, meth, c, Q, S', G', n'⟩ := E
  obtain ⟨rfl, rfl, rfl, hx, hb, hml, hown, hts, hK, hD, hN, hSk, hR⟩ := X
  intro H locs ls hP hS hg hl
  unfold dvc at o
  rcases ok_if o with ⟨_, x, σ2, e2, _⟩ | ⟨h0, o⟩
  · cases e2
  rw [← pI_div ra rb] at k
  exact lv_idiv hx hb hd (fun q => h0 ((pI_eqz rb).mp q)) (k h0 o H locs ls hP hS hg hl)
theorem z_irem {E : ET} {cc : ByteArray} {own : String} {S : List Kd} {G : Gw} {n fr lo : Nat} {σ : St} {pc : Nat} {L : List (Nat × Value)} {st : List Value} (X : Cx E cc own S G n fr lo) {β : Type} {K : β → St → Prop} {a b : Int} {g : Rs β} (hd : decode cc pc = .ok (.irem, 1)) (ra : rg a) (rb : rg b) (o : Ok (dvc b g) K) (k : b ≠ 0 → Ok g K → At E σ (pc + 1) L (.int (pI (irm a b)) :: st)) : At E σ pc L (.int (pI b) :: .int (pI a) :: st) := by
  obtain ⟨p, l, e, R, s, m, args, below, meth, c, Q, S', G', n'⟩ := E
  obtain ⟨rfl, rfl, rfl, hx, hb, hml, hown, hts, hK, hD, hN, hSk, hR⟩ := X
  intro H locs ls hP hS hg hl
  unfold dvc at o
  rcases ok_if o with ⟨_, x, σ2, e2, _⟩ | ⟨h0, o⟩
  · cases e2
  rw [← pI_rem ra rb] at k
  exact lv_irem hx hb hd (fun q => h0 ((pI_eqz rb).mp q)) (k h0 o H locs ls hP hS hg hl)
theorem z_ldiv {E : ET} {cc : ByteArray} {own : String} {S : List Kd} {G : Gw} {n fr lo : Nat} {σ : St} {pc : Nat} {L : List (Nat × Value)} {st : List Value} (X : Cx E cc own S G n fr lo) {β : Type} {K : β → St → Prop} {a b : Int} {g : Rs β} (hd : decode cc pc = .ok (.ldiv, 1)) (ra : rl a) (rb : rl b) (o : Ok (dvc b g) K) (k : b ≠ 0 → Ok g K → At E σ (pc + 1) L (.long (pJ (ldv a b)) :: st)) : At E σ pc L (.long (pJ b) :: .long (pJ a) :: st) := by
  obtain ⟨p, l, e, R, s, m, args, below, meth, c, Q, S', G', n'⟩ := E
  obtain ⟨rfl, rfl, rfl, hx, hb, hml, hown, hts, hK, hD, hN, hSk, hR⟩ := X
  intro H locs ls hP hS hg hl
  unfold dvc at o
  rcases ok_if o with ⟨_, x, σ2, e2, _⟩ | ⟨h0, o⟩
  · cases e2
  rw [← pJ_div ra rb] at k
  exact lv_ldiv hx hb hd (fun q => h0 ((pJ_eqz rb).mp q)) (k h0 o H locs ls hP hS hg hl)
theorem z_lrem {E : ET} {cc : ByteArray} {own : String} {S : List Kd} {G : Gw} {n fr lo : Nat} {σ : St} {pc : Nat} {L : List (Nat × Value)} {st : List Value} (X : Cx E cc own S G n fr lo) {β : Type} {K : β → St → Prop} {a b : Int} {g : Rs β} (hd : decode cc pc = .ok (.lrem, 1)) (ra : rl a) (rb : rl b) (o : Ok (dvc b g) K) (k : b ≠ 0 → Ok g K → At E σ (pc + 1) L (.long (pJ (lrm a b)) :: st)) : At E σ pc L (.long (pJ b) :: .long (pJ a) :: st) := by
  obtain ⟨p, l, e, R, s, m, args, below, meth, c, Q, S', G', n'⟩ := E
  obtain ⟨rfl, rfl, rfl, hx, hb, hml, hown, hts, hK, hD, hN, hSk, hR⟩ := X
  intro H locs ls hP hS hg hl
  unfold dvc at o
  rcases ok_if o with ⟨_, x, σ2, e2, _⟩ | ⟨h0, o⟩
  · cases e2
  rw [← pJ_rem ra rb] at k
  exact lv_lrem hx hb hd (fun q => h0 ((pJ_eqz rb).mp q)) (k h0 o H locs ls hP hS hg hl)
theorem z_iand {E : ET} {cc : ByteArray} {own : String} {S : List Kd} {G : Gw} {n fr lo : Nat} {σ : St} {pc : Nat} {L : List (Nat × Value)} {st : List Value} (X : Cx E cc own S G n fr lo) {a b : Int} (hd : decode cc pc = .ok (.iand, 1)) (k : At E σ (pc + 1) L (.int (pI (iand a b)) :: st)) : At E σ pc L (.int (pI b) :: .int (pI a) :: st) := by
  obtain ⟨p, l, e, R, s, m, args, below, meth, c, Q, S', G', n'⟩ := E
  obtain ⟨rfl, rfl, rfl, hx, hb, hml, hown, hts, hK, hD, hN, hSk, hR⟩ := X
  intro H locs ls hP hS hg hl
  unfold iand at k
  rw [pI_of] at k
  exact lv_iand hx hb hd (k H locs ls hP hS hg hl)
theorem z_ior {E : ET} {cc : ByteArray} {own : String} {S : List Kd} {G : Gw} {n fr lo : Nat} {σ : St} {pc : Nat} {L : List (Nat × Value)} {st : List Value} (X : Cx E cc own S G n fr lo) {a b : Int} (hd : decode cc pc = .ok (.ior, 1)) (k : At E σ (pc + 1) L (.int (pI (ior a b)) :: st)) : At E σ pc L (.int (pI b) :: .int (pI a) :: st) := by
  obtain ⟨p, l, e, R, s, m, args, below, meth, c, Q, S', G', n'⟩ := E
  obtain ⟨rfl, rfl, rfl, hx, hb, hml, hown, hts, hK, hD, hN, hSk, hR⟩ := X
  intro H locs ls hP hS hg hl
  unfold ior at k
  rw [pI_of] at k
  exact lv_ior hx hb hd (k H locs ls hP hS hg hl)
theorem z_ixor {E : ET} {cc : ByteArray} {own : String} {S : List Kd} {G : Gw} {n fr lo : Nat} {σ : St} {pc : Nat} {L : List (Nat × Value)} {st : List Value} (X : Cx E cc own S G n fr lo) {a b : Int} (hd : decode cc pc = .ok (.ixor, 1)) (k : At E σ (pc + 1) L (.int (pI (ixor a b)) :: st)) : At E σ pc L (.int (pI b) :: .int (pI a) :: st) := by
  obtain ⟨p, l, e, R, s, m, args, below, meth, c, Q, S', G', n'⟩ := E
  obtain ⟨rfl, rfl, rfl, hx, hb, hml, hown, hts, hK, hD, hN, hSk, hR⟩ := X
  intro H locs ls hP hS hg hl
  unfold ixor at k
  rw [pI_of] at k
  exact lv_ixor hx hb hd (k H locs ls hP hS hg hl)
theorem z_ishl {E : ET} {cc : ByteArray} {own : String} {S : List Kd} {G : Gw} {n fr lo : Nat} {σ : St} {pc : Nat} {L : List (Nat × Value)} {st : List Value} (X : Cx E cc own S G n fr lo) {a b : Int} (hd : decode cc pc = .ok (.ishl, 1)) (k : At E σ (pc + 1) L (.int (pI (ishl a b)) :: st)) : At E σ pc L (.int (pI b) :: .int (pI a) :: st) := by
  obtain ⟨p, l, e, R, s, m, args, below, meth, c, Q, S', G', n'⟩ := E
  obtain ⟨rfl, rfl, rfl, hx, hb, hml, hown, hts, hK, hD, hN, hSk, hR⟩ := X
  intro H locs ls hP hS hg hl
  unfold ishl at k
  rw [pI_of] at k
  exact lv_ishl hx hb hd (k H locs ls hP hS hg hl)
theorem z_ishr {E : ET} {cc : ByteArray} {own : String} {S : List Kd} {G : Gw} {n fr lo : Nat} {σ : St} {pc : Nat} {L : List (Nat × Value)} {st : List Value} (X : Cx E cc own S G n fr lo) {a b : Int} (hd : decode cc pc = .ok (.ishr, 1)) (k : At E σ (pc + 1) L (.int (pI (ishr a b)) :: st)) : At E σ pc L (.int (pI b) :: .int (pI a) :: st) := by
  obtain ⟨p, l, e, R, s, m, args, below, meth, c, Q, S', G', n'⟩ := E
  obtain ⟨rfl, rfl, rfl, hx, hb, hml, hown, hts, hK, hD, hN, hSk, hR⟩ := X
  intro H locs ls hP hS hg hl
  unfold ishr at k
  rw [pI_of] at k
  exact lv_ishr hx hb hd (k H locs ls hP hS hg hl)
theorem z_iushr {E : ET} {cc : ByteArray} {own : String} {S : List Kd} {G : Gw} {n fr lo : Nat} {σ : St} {pc : Nat} {L : List (Nat × Value)} {st : List Value} (X : Cx E cc own S G n fr lo) {a b : Int} (hd : decode cc pc = .ok (.iushr, 1)) (k : At E σ (pc + 1) L (.int (pI (iushr a b)) :: st)) : At E σ pc L (.int (pI b) :: .int (pI a) :: st) := by
  obtain ⟨p, l, e, R, s, m, args, below, meth, c, Q, S', G', n'⟩ := E
  obtain ⟨rfl, rfl, rfl, hx, hb, hml, hown, hts, hK, hD, hN, hSk, hR⟩ := X
  intro H locs ls hP hS hg hl
  unfold iushr at k
  rw [pI_of] at k
  exact lv_iushr hx hb hd rfl (k H locs ls hP hS hg hl)
theorem z_ineg {E : ET} {cc : ByteArray} {own : String} {S : List Kd} {G : Gw} {n fr lo : Nat} {σ : St} {pc : Nat} {L : List (Nat × Value)} {st : List Value} (X : Cx E cc own S G n fr lo) {a : Int} (hd : decode cc pc = .ok (.ineg, 1)) (k : At E σ (pc + 1) L (.int (pI (w32 (-a))) :: st)) : At E σ pc L (.int (pI a) :: st) := by
  obtain ⟨p, l, e, R, s, m, args, below, meth, c, Q, S', G', n'⟩ := E
  obtain ⟨rfl, rfl, rfl, hx, hb, hml, hown, hts, hK, hD, hN, hSk, hR⟩ := X
  intro H locs ls hP hS hg hl
  rw [← pI_neg] at k
  exact lv_ineg hx hb hd (k H locs ls hP hS hg hl)
theorem z_i2l {E : ET} {cc : ByteArray} {own : String} {S : List Kd} {G : Gw} {n fr lo : Nat} {σ : St} {pc : Nat} {L : List (Nat × Value)} {st : List Value} (X : Cx E cc own S G n fr lo) {a : Int} (hd : decode cc pc = .ok (.i2l, 1)) (ra : rg a) (k : At E σ (pc + 1) L (.long (pJ a) :: st)) : At E σ pc L (.int (pI a) :: st) := by
  obtain ⟨p, l, e, R, s, m, args, below, meth, c, Q, S', G', n'⟩ := E
  obtain ⟨rfl, rfl, rfl, hx, hb, hml, hown, hts, hK, hD, hN, hSk, hR⟩ := X
  intro H locs ls hP hS hg hl
  exact lv_i2l hx hb hd (pJ_i2l ra) (k H locs ls hP hS hg hl)
theorem z_l2i {E : ET} {cc : ByteArray} {own : String} {S : List Kd} {G : Gw} {n fr lo : Nat} {σ : St} {pc : Nat} {L : List (Nat × Value)} {st : List Value} (X : Cx E cc own S G n fr lo) {a : Int} (hd : decode cc pc = .ok (.l2i, 1)) (k : At E σ (pc + 1) L (.int (pI (l2i a)) :: st)) : At E σ pc L (.long (pJ a) :: st) := by
  obtain ⟨p, l, e, R, s, m, args, below, meth, c, Q, S', G', n'⟩ := E
  obtain ⟨rfl, rfl, rfl, hx, hb, hml, hown, hts, hK, hD, hN, hSk, hR⟩ := X
  intro H locs ls hP hS hg hl
  exact lv_l2i hx hb hd pI_l2i (k H locs ls hP hS hg hl)
theorem z_i2b {E : ET} {cc : ByteArray} {own : String} {S : List Kd} {G : Gw} {n fr lo : Nat} {σ : St} {pc : Nat} {L : List (Nat × Value)} {st : List Value} (X : Cx E cc own S G n fr lo) {a : Int} (hd : decode cc pc = .ok (.i2b, 1)) (k : At E σ (pc + 1) L (.int (pI (i2b a)) :: st)) : At E σ pc L (.int (pI a) :: st) := by
  obtain ⟨p, l, e, R, s, m, args, below, meth, c, Q, S', G', n'⟩ := E
  obtain ⟨rfl, rfl, rfl, hx, hb, hml, hown, hts, hK, hD, hN, hSk, hR⟩ := X
  intro H locs ls hP hS hg hl
  exact lv_i2b hx hb hd (by unfold i2b; rw [pI_of]) (k H locs ls hP hS hg hl)
theorem z_dup {E : ET} {cc : ByteArray} {own : String} {S : List Kd} {G : Gw} {n fr lo : Nat} {σ : St} {pc : Nat} {L : List (Nat × Value)} {st : List Value} (X : Cx E cc own S G n fr lo) {v : Value} (hd : decode cc pc = .ok (.dup, 1)) (hv : v.category = 1) (k : At E σ (pc + 1) L (v :: v :: st)) : At E σ pc L (v :: st) := by
  obtain ⟨p, l, e, R, s, m, args, below, meth, c, Q, S', G', n'⟩ := E
  obtain ⟨rfl, rfl, rfl, hx, hb, hml, hown, hts, hK, hD, hN, hSk, hR⟩ := X
  intro H locs ls hP hS hg hl
  exact lv_dup hx hb hd hv (k H locs ls hP hS hg hl)
theorem z_pop {E : ET} {cc : ByteArray} {own : String} {S : List Kd} {G : Gw} {n fr lo : Nat} {σ : St} {pc : Nat} {L : List (Nat × Value)} {st : List Value} (X : Cx E cc own S G n fr lo) {v : Value} (hd : decode cc pc = .ok (.pop, 1)) (hv : v.category = 1) (k : At E σ (pc + 1) L st) : At E σ pc L (v :: st) := by
  obtain ⟨p, l, e, R, s, m, args, below, meth, c, Q, S', G', n'⟩ := E
  obtain ⟨rfl, rfl, rfl, hx, hb, hml, hown, hts, hK, hD, hN, hSk, hR⟩ := X
  intro H locs ls hP hS hg hl
  exact lv_pop hx hb hd hv (k H locs ls hP hS hg hl)
theorem z_dup2 {E : ET} {cc : ByteArray} {own : String} {S : List Kd} {G : Gw} {n fr lo : Nat} {σ : St} {pc : Nat} {L : List (Nat × Value)} {st : List Value} (X : Cx E cc own S G n fr lo) {v w : Value} (hd : decode cc pc = .ok (.dup2, 1)) (hv : v.category = 1) (hw : w.category = 1) (k : At E σ (pc + 1) L (v :: w :: v :: w :: st)) : At E σ pc L (v :: w :: st) := by
  obtain ⟨p, l, e, R, s, m, args, below, meth, c, Q, S', G', n'⟩ := E
  obtain ⟨rfl, rfl, rfl, hx, hb, hml, hown, hts, hK, hD, hN, hSk, hR⟩ := X
  intro H locs ls hP hS hg hl
  exact lv_dup2_11 hx hb hd hv hw (k H locs ls hP hS hg hl)
theorem z_goto {E : ET} {cc : ByteArray} {own : String} {S : List Kd} {G : Gw} {n fr lo : Nat} {σ : St} {pc : Nat} {L : List (Nat × Value)} {st : List Value} (X : Cx E cc own S G n fr lo) {off : Int} {tgt : Nat} (hd : decode cc pc = .ok (.goto off, 3)) (ht : (pc : Int) + off = (tgt : Int)) (k : At E σ tgt L st) : At E σ pc L st := by
  obtain ⟨p, l, e, R, s, m, args, below, meth, c, Q, S', G', n'⟩ := E
  obtain ⟨rfl, rfl, rfl, hx, hb, hml, hown, hts, hK, hD, hN, hSk, hR⟩ := X
  intro H locs ls hP hS hg hl
  exact lv_goto hx hb hd ht (k H locs ls hP hS hg hl)
theorem z_icmp_eq {E : ET} {cc : ByteArray} {own : String} {S : List Kd} {G : Gw} {n fr lo : Nat} {σ : St} {pc : Nat} {L : List (Nat × Value)} {st : List Value} (X : Cx E cc own S G n fr lo) {β : Type} {K : β → St → Prop} {a b : Int} {h1 h2 : Rs β} {off : Int} {tgt : Nat} (hd : decode cc pc = .ok (.if_icmp .eq off, 3)) (ht : (pc : Int) + off = (tgt : Int)) (ra : rg a) (rb : rg b) (o : Ok (if a = b then h1 else h2) K) (kt : Ok h1 K → At E σ tgt L st) (kf : Ok h2 K → At E σ (pc + 3) L st) : At E σ pc L (.int (pI b) :: .int (pI a) :: st) := by
  obtain ⟨p, l, e, R, s, m, args, below, meth, c, Q, S', G', n'⟩ := E
  obtain ⟨rfl, rfl, rfl, hx, hb, hml, hown, hts, hK, hD, hN, hSk, hR⟩ := X
  intro H locs ls hP hS hg hl
  refine lv_icmp_eq hx hb hd ht (fun c => kt ?_ H locs ls hP hS hg hl) (fun c => kf ?_ H locs ls hP hS hg hl)
  · rw [pI_inj ra rb] at c
    rwa [if_pos (by omega)] at o
  · rw [pI_inj ra rb] at c
    rwa [if_neg (by omega)] at o
theorem z_icmp_ne {E : ET} {cc : ByteArray} {own : String} {S : List Kd} {G : Gw} {n fr lo : Nat} {σ : St} {pc : Nat} {L : List (Nat × Value)} {st : List Value} (X : Cx E cc own S G n fr lo) {β : Type} {K : β → St → Prop} {a b : Int} {h1 h2 : Rs β} {off : Int} {tgt : Nat} (hd : decode cc pc = .ok (.if_icmp .ne off, 3)) (ht : (pc : Int) + off = (tgt : Int)) (ra : rg a) (rb : rg b) (o : Ok (if a = b then h1 else h2) K) (kt : Ok h2 K → At E σ tgt L st) (kf : Ok h1 K → At E σ (pc + 3) L st) : At E σ pc L (.int (pI b) :: .int (pI a) :: st) := by
  obtain ⟨p, l, e, R, s, m, args, below, meth, c, Q, S', G', n'⟩ := E
  obtain ⟨rfl, rfl, rfl, hx, hb, hml, hown, hts, hK, hD, hN, hSk, hR⟩ := X
  intro H locs ls hP hS hg hl
  refine lv_icmp_ne hx hb hd ht (fun c => kt ?_ H locs ls hP hS hg hl) (fun c => kf ?_ H locs ls hP hS hg hl)
  · rw [pI_inj ra rb] at c
    rwa [if_neg (by omega)] at o
  · rw [pI_inj ra rb] at c
    rwa [if_pos (by omega)] at o
theorem z_icmp_lt {E : ET} {cc : ByteArray} {own : String} {S : List Kd} {G : Gw} {n fr lo : Nat} {σ : St} {pc : Nat} {L : List (Nat × Value)} {st : List Value} (X : Cx E cc own S G n fr lo) {β : Type} {K : β → St → Prop} {a b : Int} {h1 h2 : Rs β} {off : Int} {tgt : Nat} (hd : decode cc pc = .ok (.if_icmp .lt off, 3)) (ht : (pc : Int) + off = (tgt : Int)) (ra : rg a) (rb : rg b) (o : Ok (if a < b then h1 else h2) K) (kt : Ok h1 K → At E σ tgt L st) (kf : Ok h2 K → At E σ (pc + 3) L st) : At E σ pc L (.int (pI b) :: .int (pI a) :: st) := by
  obtain ⟨p, l, e, R, s, m, args, below, meth, c, Q, S', G', n'⟩ := E
  obtain ⟨rfl, rfl, rfl, hx, hb, hml, hown, hts, hK, hD, hN, hSk, hR⟩ := X
  intro H locs ls hP hS hg hl
  refine lv_icmp_lt hx hb hd ht (fun c => kt ?_ H locs ls hP hS hg hl) (fun c => kf ?_ H locs ls hP hS hg hl)
  · rw [pI_lt ra rb] at c
    rwa [if_pos (by omega)] at o
  · rw [pI_lt ra rb] at c
    rwa [if_neg (by omega)] at o
theorem z_icmp_ge {E : ET} {cc : ByteArray} {own : String} {S : List Kd} {G : Gw} {n fr lo : Nat} {σ : St} {pc : Nat} {L : List (Nat × Value)} {st : List Value} (X : Cx E cc own S G n fr lo) {β : Type} {K : β → St → Prop} {a b : Int} {h1 h2 : Rs β} {off : Int} {tgt : Nat} (hd : decode cc pc = .ok (.if_icmp .ge off, 3)) (ht : (pc : Int) + off = (tgt : Int)) (ra : rg a) (rb : rg b) (o : Ok (if a < b then h1 else h2) K) (kt : Ok h2 K → At E σ tgt L st) (kf : Ok h1 K → At E σ (pc + 3) L st) : At E σ pc L (.int (pI b) :: .int (pI a) :: st) := by
  obtain ⟨p, l, e, R, s, m, args, below, meth, c, Q, S', G', n'⟩ := E
  obtain ⟨rfl, rfl, rfl, hx, hb, hml, hown, hts, hK, hD, hN, hSk, hR⟩ := X
  intro H locs ls hP hS hg hl
  refine lv_icmp_ge hx hb hd ht (fun c => kt ?_ H locs ls hP hS hg hl) (fun c => kf ?_ H locs ls hP hS hg hl)
  · rw [pI_le rb ra] at c
    rwa [if_neg (by omega)] at o
  · rw [pI_le rb ra] at c
    rwa [if_pos (by omega)] at o
theorem z_icmp_gt {E : ET} {cc : ByteArray} {own : String} {S : List Kd} {G : Gw} {n fr lo : Nat} {σ : St} {pc : Nat} {L : List (Nat × Value)} {st : List Value} (X : Cx E cc own S G n fr lo) {β : Type} {K : β → St → Prop} {a b : Int} {h1 h2 : Rs β} {off : Int} {tgt : Nat} (hd : decode cc pc = .ok (.if_icmp .gt off, 3)) (ht : (pc : Int) + off = (tgt : Int)) (ra : rg a) (rb : rg b) (o : Ok (if b < a then h1 else h2) K) (kt : Ok h1 K → At E σ tgt L st) (kf : Ok h2 K → At E σ (pc + 3) L st) : At E σ pc L (.int (pI b) :: .int (pI a) :: st) := by
  obtain ⟨p, l, e, R, s, m, args, below, meth, c, Q, S', G', n'⟩ := E
  obtain ⟨rfl, rfl, rfl, hx, hb, hml, hown, hts, hK, hD, hN, hSk, hR⟩ := X
  intro H locs ls hP hS hg hl
  refine lv_icmp_gt hx hb hd ht (fun c => kt ?_ H locs ls hP hS hg hl) (fun c => kf ?_ H locs ls hP hS hg hl)
  · rw [pI_lt rb ra] at c
    rwa [if_pos (by omega)] at o
  · rw [pI_lt rb ra] at c
    rwa [if_neg (by omega)] at o
theorem z_icmp_le {E : ET} {cc : ByteArray} {own : String} {S : List Kd} {G : Gw} {n fr lo : Nat} {σ : St} {pc : Nat} {L : List (Nat × Value)} {st : List Value} (X : Cx E cc own S G n fr lo) {β : Type} {K : β → St → Prop} {a b : Int} {h1 h2 : Rs β} {off : Int} {tgt : Nat} (hd : decode cc pc = .ok (.if_icmp .le off, 3)) (ht : (pc : Int) + off = (tgt : Int)) (ra : rg a) (rb : rg b) (o : Ok (if b < a then h1 else h2) K) (kt : Ok h2 K → At E σ tgt L st) (kf : Ok h1 K → At E σ (pc + 3) L st) : At E σ pc L (.int (pI b) :: .int (pI a) :: st) := by
  obtain ⟨p, l, e, R, s, m, args, below, meth, c, Q, S', G', n'⟩ := E
  obtain ⟨rfl, rfl, rfl, hx, hb, hml, hown, hts, hK, hD, hN, hSk, hR⟩ := X
  intro H locs ls hP hS hg hl
  refine lv_icmp_le hx hb hd ht (fun c => kt ?_ H locs ls hP hS hg hl) (fun c => kf ?_ H locs ls hP hS hg hl)
  · rw [pI_le ra rb] at c
    rwa [if_neg (by omega)] at o
  · rw [pI_le ra rb] at c
    rwa [if_pos (by omega)] at o
theorem z_if_eq {E : ET} {cc : ByteArray} {own : String} {S : List Kd} {G : Gw} {n fr lo : Nat} {σ : St} {pc : Nat} {L : List (Nat × Value)} {st : List Value} (X : Cx E cc own S G n fr lo) {β : Type} {K : β → St → Prop} {a : Int} {h1 h2 : Rs β} {off : Int} {tgt : Nat} (hd : decode cc pc = .ok (.ifCond .eq off, 3)) (ht : (pc : Int) + off = (tgt : Int)) (ra : rg a) (o : Ok (if a = 0 then h1 else h2) K) (kt : Ok h1 K → At E σ tgt L st) (kf : Ok h2 K → At E σ (pc + 3) L st) : At E σ pc L (.int (pI a) :: st) := by
  obtain ⟨p, l, e, R, s, m, args, below, meth, c, Q, S', G', n'⟩ := E
  obtain ⟨rfl, rfl, rfl, hx, hb, hml, hown, hts, hK, hD, hN, hSk, hR⟩ := X
  intro H locs ls hP hS hg hl
  refine lv_if_eq hx hb hd ht (fun c => kt ?_ H locs ls hP hS hg hl) (fun c => kf ?_ H locs ls hP hS hg hl)
  · rw [pI_eqz ra] at c
    rwa [if_pos (by omega)] at o
  · rw [pI_eqz ra] at c
    rwa [if_neg (by omega)] at o
theorem z_if_ne {E : ET} {cc : ByteArray} {own : String} {S : List Kd} {G : Gw} {n fr lo : Nat} {σ : St} {pc : Nat} {L : List (Nat × Value)} {st : List Value} (X : Cx E cc own S G n fr lo) {β : Type} {K : β → St → Prop} {a : Int} {h1 h2 : Rs β} {off : Int} {tgt : Nat} (hd : decode cc pc = .ok (.ifCond .ne off, 3)) (ht : (pc : Int) + off = (tgt : Int)) (ra : rg a) (o : Ok (if a = 0 then h1 else h2) K) (kt : Ok h2 K → At E σ tgt L st) (kf : Ok h1 K → At E σ (pc + 3) L st) : At E σ pc L (.int (pI a) :: st) := by
  obtain ⟨p, l, e, R, s, m, args, below, meth, c, Q, S', G', n'⟩ := E
  obtain ⟨rfl, rfl, rfl, hx, hb, hml, hown, hts, hK, hD, hN, hSk, hR⟩ := X
  intro H locs ls hP hS hg hl
  refine lv_if_ne hx hb hd ht (fun c => kt ?_ H locs ls hP hS hg hl) (fun c => kf ?_ H locs ls hP hS hg hl)
  · rw [pI_eqz ra] at c
    rwa [if_neg (by omega)] at o
  · rw [pI_eqz ra] at c
    rwa [if_pos (by omega)] at o
theorem z_if_lt {E : ET} {cc : ByteArray} {own : String} {S : List Kd} {G : Gw} {n fr lo : Nat} {σ : St} {pc : Nat} {L : List (Nat × Value)} {st : List Value} (X : Cx E cc own S G n fr lo) {β : Type} {K : β → St → Prop} {a : Int} {h1 h2 : Rs β} {off : Int} {tgt : Nat} (hd : decode cc pc = .ok (.ifCond .lt off, 3)) (ht : (pc : Int) + off = (tgt : Int)) (ra : rg a) (o : Ok (if a < 0 then h1 else h2) K) (kt : Ok h1 K → At E σ tgt L st) (kf : Ok h2 K → At E σ (pc + 3) L st) : At E σ pc L (.int (pI a) :: st) := by
  obtain ⟨p, l, e, R, s, m, args, below, meth, c, Q, S', G', n'⟩ := E
  obtain ⟨rfl, rfl, rfl, hx, hb, hml, hown, hts, hK, hD, hN, hSk, hR⟩ := X
  intro H locs ls hP hS hg hl
  refine lv_if_lt hx hb hd ht (fun c => kt ?_ H locs ls hP hS hg hl) (fun c => kf ?_ H locs ls hP hS hg hl)
  · rw [pI_ltz ra] at c
    rwa [if_pos (by omega)] at o
  · rw [pI_ltz ra] at c
    rwa [if_neg (by omega)] at o
theorem z_if_ge {E : ET} {cc : ByteArray} {own : String} {S : List Kd} {G : Gw} {n fr lo : Nat} {σ : St} {pc : Nat} {L : List (Nat × Value)} {st : List Value} (X : Cx E cc own S G n fr lo) {β : Type} {K : β → St → Prop} {a : Int} {h1 h2 : Rs β} {off : Int} {tgt : Nat} (hd : decode cc pc = .ok (.ifCond .ge off, 3)) (ht : (pc : Int) + off = (tgt : Int)) (ra : rg a) (o : Ok (if a < 0 then h1 else h2) K) (kt : Ok h2 K → At E σ tgt L st) (kf : Ok h1 K → At E σ (pc + 3) L st) : At E σ pc L (.int (pI a) :: st) := by
  obtain ⟨p, l, e, R, s, m, args, below, meth, c, Q, S', G', n'⟩ := E
  obtain ⟨rfl, rfl, rfl, hx, hb, hml, hown, hts, hK, hD, hN, hSk, hR⟩ := X
  intro H locs ls hP hS hg hl
  refine lv_if_ge hx hb hd ht (fun c => kt ?_ H locs ls hP hS hg hl) (fun c => kf ?_ H locs ls hP hS hg hl)
  · rw [pI_gez ra] at c
    rwa [if_neg (by omega)] at o
  · rw [pI_gez ra] at c
    rwa [if_pos (by omega)] at o
theorem z_if_gt {E : ET} {cc : ByteArray} {own : String} {S : List Kd} {G : Gw} {n fr lo : Nat} {σ : St} {pc : Nat} {L : List (Nat × Value)} {st : List Value} (X : Cx E cc own S G n fr lo) {β : Type} {K : β → St → Prop} {a : Int} {h1 h2 : Rs β} {off : Int} {tgt : Nat} (hd : decode cc pc = .ok (.ifCond .gt off, 3)) (ht : (pc : Int) + off = (tgt : Int)) (ra : rg a) (o : Ok (if 0 < a then h1 else h2) K) (kt : Ok h1 K → At E σ tgt L st) (kf : Ok h2 K → At E σ (pc + 3) L st) : At E σ pc L (.int (pI a) :: st) := by
  obtain ⟨p, l, e, R, s, m, args, below, meth, c, Q, S', G', n'⟩ := E
  obtain ⟨rfl, rfl, rfl, hx, hb, hml, hown, hts, hK, hD, hN, hSk, hR⟩ := X
  intro H locs ls hP hS hg hl
  refine lv_if_gt hx hb hd ht (fun c => kt ?_ H locs ls hP hS hg hl) (fun c => kf ?_ H locs ls hP hS hg hl)
  · rw [pI_gtz ra] at c
    rwa [if_pos (by omega)] at o
  · rw [pI_gtz ra] at c
    rwa [if_neg (by omega)] at o
theorem z_if_le {E : ET} {cc : ByteArray} {own : String} {S : List Kd} {G : Gw} {n fr lo : Nat} {σ : St} {pc : Nat} {L : List (Nat × Value)} {st : List Value} (X : Cx E cc own S G n fr lo) {β : Type} {K : β → St → Prop} {a : Int} {h1 h2 : Rs β} {off : Int} {tgt : Nat} (hd : decode cc pc = .ok (.ifCond .le off, 3)) (ht : (pc : Int) + off = (tgt : Int)) (ra : rg a) (o : Ok (if 0 < a then h1 else h2) K) (kt : Ok h2 K → At E σ tgt L st) (kf : Ok h1 K → At E σ (pc + 3) L st) : At E σ pc L (.int (pI a) :: st) := by
  obtain ⟨p, l, e, R, s, m, args, below, meth, c, Q, S', G', n'⟩ := E
  obtain ⟨rfl, rfl, rfl, hx, hb, hml, hown, hts, hK, hD, hN, hSk, hR⟩ := X
  intro H locs ls hP hS hg hl
  refine lv_if_le hx hb hd ht (fun c => kt ?_ H locs ls hP hS hg hl) (fun c => kf ?_ H locs ls hP hS hg hl)
  · rw [pI_lez ra] at c
    rwa [if_neg (by omega)] at o
  · rw [pI_lez ra] at c
    rwa [if_pos (by omega)] at o
/-- a field's words: class ci of vwCl, field j of it, as the class own links it at idx -/
def FL (own : String) (idx ci j : Nat) (C : String) (T : u_T) (N : Nat) : Prop := vwCl[ci]? = some (C, T, N) ∧ (∀ w ∈ u_ws C T N, w ∈ tbl) ∧ j < N ∧ (T j).1 = C ∧ Cond.fieldLink own idx C (T j).2.1 (T j).2.2.1 ∈ tbl
def FN (own : String) (idx ci j : Nat) (C : String) (T : u_T) (N : Nat) : Prop := vwCl[ci]? = some (C, T, N) ∧ (∀ w ∈ u_ws C T N, w ∈ tbl) ∧ j < N ∧ (T j).1 = C ∧ ∃ host : String, Cond.fieldLinkNest own idx C (T j).2.1 (T j).2.2.1 host ∈ nst
def FT (T : u_T) (N j : Nat) (ty : FieldType) (ty0 : Nat → FieldType) : Prop := (∀ k, k < N → parseFieldDescriptor (T k).2.2.1 = some (ty0 k)) ∧ (∀ a, a < N → ∀ b, b < N → a ≠ b → (T a).2.1 ≠ (T b).2.1) ∧ (T j).2.2.2 = false ∧ parseFieldDescriptor (T j).2.2.1 = some ty
theorem fv_at {G : Gw} {f : Int → Int} {fs : List Nat} {j c : Nat} (h : fs[j]? = some c) : (fs.mapIdx (fv G f))[j]? = some (fv G f j c) := by
  simp [h]
theorem fv_set {G : Gw} {f g : Int → Int} {fs : List Nat} {j : Nat} {v : Value} (h : fs[j]? = some 0) (hv : v = .int (pI (g j))) (hg : ∀ i : Int, i ≠ j → g i = f i) : (fs.mapIdx (fv G f)).set j v = fs.mapIdx (fv G g) := by
  apply List.ext_getElem?
  intro i
  rw [List.getElem?_set]
  by_cases hi : j = i
  · subst hi
    have hl : j < (fs.mapIdx (fv G f)).length := by
      have := (List.getElem?_eq_some_iff.mp h).1
      simpa using this
    rw [if_pos rfl, if_pos hl, fv_at h, hv]
    rfl
  · rw [if_neg hi]
    simp only [List.getElem?_mapIdx]
    cases fs[i]? with
    | none => rfl
    | some c =>
      simp only [Option.map_some]
      congr 1
      cases c with
      | zero => show Value.int (pI (f i)) = Value.int (pI (g i)); rw [hg i (fun q => hi (by omega))]
      | succ c => cases c <;> rfl
theorem up_ne {σ : St} {k k' : Nat} {i v : Int} (h : k' ≠ k) : up σ k i v k' = σ k' := by
  funext i'
  unfold up
  rw [if_neg (fun q => h q.1)]
theorem up_at {σ : St} {k : Nat} {i v : Int} (j : Int) : up σ k i v k j = if j = i then v else σ k j := by
  unfold up
  by_cases h : j = i
  · rw [if_pos ⟨rfl, h⟩, if_pos h]
  · rw [if_neg (fun q => h q.2), if_neg h]
theorem lay_int {S : List Kd} {G : Gw} {σ : St} {k len : Nat} (h : S[k]? = some (.inl (0, len))) : (lay S G σ)[k]? = some (G.2.2.1 k, .inl (G.2.1 0, len, .inl fun j => pI (σ k j))) := lay_at h
theorem lay_byte {S : List Kd} {G : Gw} {σ : St} {k len : Nat} (h : S[k]? = some (.inl (1, len))) : (lay S G σ)[k]? = some (G.2.2.1 k, .inl (G.2.1 1, len, .inl fun j => pI (σ k j))) := lay_at h
theorem lay_long {S : List Kd} {G : Gw} {σ : St} {k len : Nat} (h : S[k]? = some (.inl (2, len))) : (lay S G σ)[k]? = some (G.2.2.1 k, .inl (G.2.1 2, len, .inr (.inl fun j => pJ (σ k j)))) := lay_at h
theorem lay_obj {S : List Kd} {G : Gw} {σ : St} {k ci : Nat} {fs : List Nat} (h : S[k]? = some (.inr (.inl (ci, fs)))) : (lay S G σ)[k]? = some (G.2.2.1 k, .inr (ci, fs.mapIdx (fv G (σ k)))) := lay_at h
theorem lay_arr {S : List Kd} {G : Gw} {σ : St} {k : Nat} {ids : List Nat} (h : S[k]? = some (.inr (.inr ids))) : (lay S G σ)[k]? = some (G.2.2.1 k, .inl (G.2.1 3, ids.length, .inr (.inr (.inr (.inr fun j => (ids[j]?).map G.2.2.1))))) := lay_at h
theorem upd_up {σ : St} {k : Nat} {i v : Int} (hi : 0 ≤ i) (ri : rg i) : upd (fun j : Nat => pI (σ k j)) (pI i).toNatClampNeg (pI v) = fun j : Nat => pI (up σ k i v k j) := by
  funext j
  rw [up_at, clamp_pI ri]
  unfold upd
  by_cases h : j = i.toNat
  · rw [if_pos h, if_pos (by omega)]
  · rw [if_neg h, if_neg (by omega)]
theorem updL_up {σ : St} {k : Nat} {i v : Int} (hi : 0 ≤ i) (ri : rg i) : vp_updL (fun j : Nat => pJ (σ k j)) (pI i).toNatClampNeg (pJ v) = fun j : Nat => pJ (up σ k i v k j) := by
  funext j
  rw [up_at, clamp_pI ri]
  unfold vp_updL
  by_cases h : j = i.toNat
  · rw [if_pos h, if_pos (by omega)]
  · rw [if_neg h, if_neg (by omega)]
theorem z_getI {E : ET} {cc : ByteArray} {own : String} {S : List Kd} {G : Gw} {n fr lo : Nat} {σ : St} {pc : Nat} {L : List (Nat × Value)} {st : List Value} (X : Cx E cc own S G n fr lo) {β : Type} {K : β → St → Prop} {C : String} {T : u_T} {N ci idx k j : Nat} {fs : List Nat} (hd : decode cc pc = .ok (.getfield idx, 3)) (F : FL own idx ci j C T N) (hk : S[k]? = some (.inr (.inl (ci, fs)))) (h0 : fs[j]? = some 0) {g : Int → Rs β} (o : Ok (fld σ k j g) K) (kk : ∀ v, rg v → Ok (g v) K → At E σ (pc + 3) L (.int (pI v) :: st)) : At E σ pc L (.ref (G.2.2.1 k) :: st) := by
  obtain ⟨p, l, e, R, s, m, args, below, meth, c, Q, S', G', n'⟩ := E
  obtain ⟨rfl, rfl, rfl, hx, hb, hml, hown, hts, hK, hD, hN, hSk, hR⟩ := X
  intro H locs ls hP hS hg hl
  obtain ⟨hC, hin, hj, hT, hlk⟩ := F
  refine va_get (v := .int (pI (σ k j))) hx hb hts hin hown hK hP k (lay_obj hk) hC j hj (hts _ hlk) (fun _ h9 => hT ▸ h9) (fv_at h0) hd ?_
  exact kk _ (hg.rg (kl_obj hk) _) o H locs ls hP hS hg hl
theorem z_getR {E : ET} {cc : ByteArray} {own : String} {S : List Kd} {G : Gw} {n fr lo : Nat} {σ : St} {pc : Nat} {L : List (Nat × Value)} {st : List Value} (X : Cx E cc own S G n fr lo) {C : String} {T : u_T} {N ci idx k j : Nat} {fs : List Nat} (hd : decode cc pc = .ok (.getfield idx, 3)) (F : FL own idx ci j C T N) (hk : S[k]? = some (.inr (.inl (ci, fs)))) {q : Nat} (h0 : fs[j]? = some (q + 2)) (kk : At E σ (pc + 3) L (.ref (G.2.2.1 q) :: st)) : At E σ pc L (.ref (G.2.2.1 k) :: st) := by
  obtain ⟨p, l, e, R, s, m, args, below, meth, c, Q, S', G', n'⟩ := E
  obtain ⟨rfl, rfl, rfl, hx, hb, hml, hown, hts, hK, hD, hN, hSk, hR⟩ := X
  intro H locs ls hP hS hg hl
  obtain ⟨hC, hin, hj, hT, hlk⟩ := F
  refine va_get (v := .ref (G'.2.2.1 q)) hx hb hts hin hown hK hP k (lay_obj hk) hC j hj (hts _ hlk) (fun _ h9 => hT ▸ h9) (fv_at h0) hd ?_
  exact kk H locs ls hP hS hg hl
theorem z_putI {E : ET} {cc : ByteArray} {own : String} {S : List Kd} {G : Gw} {n fr lo : Nat} {σ : St} {pc : Nat} {L : List (Nat × Value)} {st : List Value} (X : Cx E cc own S G n fr lo) {β : Type} {K : β → St → Prop} {C : String} {T : u_T} {N ci idx k j : Nat} {fs : List Nat} (hd : decode cc pc = .ok (.putfield idx, 3)) (F : FL own idx ci j C T N) (hk : S[k]? = some (.inr (.inl (ci, fs)))) {ty0 : Nat → FieldType} (F2 : FT T N j .int ty0) (h0 : fs[j]? = some 0) {v : Int} (rv : rg v) {g : St → Rs β} (o : Ok (put σ k j v g) K) (kk : ∀ σ1, Ok (g σ1) K → At E σ1 (pc + 3) L st) : At E σ pc L (.int (pI v) :: .ref (G.2.2.1 k) :: st) := by
  obtain ⟨p, l, e, R, s, m, args, below, meth, c, Q, S', G', n'⟩ := E
  obtain ⟨rfl, rfl, rfl, hx, hb, hml, hown, hts, hK, hD, hN, hSk, hR⟩ := X
  intro H locs ls hP hS hg hl
  obtain ⟨hC, hin, hj, hT, hlk⟩ := F
  obtain ⟨f1, f2, f3, f4⟩ := F2
  refine va_put (ty := .int) (v := .int (pI v)) hx hb hts hin ty0 f1 f2 hown hK hP (hD σ) hS k (lay_obj hk) hC j hj (hts _ hlk) (fun _ h9 => hT ▸ h9) f3 f4 rfl rfl (by have := (List.getElem?_eq_some_iff.mp h0).1; simpa using this) hd (fun H1 locs1 hP1 hD1 hS1 => ?_)
  rw [lay_set (σ' := up σ k j v) hk (by show _ = Sum.inr (ci, fs.mapIdx (fv G' (up σ k j v k))); rw [fv_set h0 (g := up σ k j v k) (by rw [up_at, if_pos rfl]) (fun i hi => by rw [up_at, if_neg hi])]) (fun k' h' => up_ne h')] at hP1
  exact kk _ o H1 locs1 ls hP1 hS1 (hg.up (by rw [kl_obj hk]; exact rv)) hl
theorem z_putZ {E : ET} {cc : ByteArray} {own : String} {S : List Kd} {G : Gw} {n fr lo : Nat} {σ : St} {pc : Nat} {L : List (Nat × Value)} {st : List Value} (X : Cx E cc own S G n fr lo) {β : Type} {K : β → St → Prop} {C : String} {T : u_T} {N ci idx k j : Nat} {fs : List Nat} (hd : decode cc pc = .ok (.putfield idx, 3)) (F : FL own idx ci j C T N) (hk : S[k]? = some (.inr (.inl (ci, fs)))) {ty0 : Nat → FieldType} (F2 : FT T N j .boolean ty0) (h0 : fs[j]? = some 0) {v : Int} (rv : r01 v) {g : St → Rs β} (o : Ok (put σ k j v g) K) (kk : ∀ σ1, Ok (g σ1) K → At E σ1 (pc + 3) L st) : At E σ pc L (.int (pI v) :: .ref (G.2.2.1 k) :: st) := by
  obtain ⟨p, l, e, R, s, m, args, below, meth, c, Q, S', G', n'⟩ := E
  obtain ⟨rfl, rfl, rfl, hx, hb, hml, hown, hts, hK, hD, hN, hSk, hR⟩ := X
  intro H locs ls hP hS hg hl
  obtain ⟨hC, hin, hj, hT, hlk⟩ := F
  obtain ⟨f1, f2, f3, f4⟩ := F2
  refine va_put (ty := .boolean) (v := .int (pI v)) hx hb hts hin ty0 f1 f2 hown hK hP (hD σ) hS k (lay_obj hk) hC j hj (hts _ hlk) (fun _ h9 => hT ▸ h9) f3 f4 (by rcases rv with rfl | rfl <;> rfl) (by rcases rv with rfl | rfl <;> rfl) (by have := (List.getElem?_eq_some_iff.mp h0).1; simpa using this) hd (fun H1 locs1 hP1 hD1 hS1 => ?_)
  rw [lay_set (σ' := up σ k j v) hk (by show _ = Sum.inr (ci, fs.mapIdx (fv G' (up σ k j v k))); rw [fv_set h0 (g := up σ k j v k) (by rw [up_at, if_pos rfl]) (fun i hi => by rw [up_at, if_neg hi])]) (fun k' h' => up_ne h')] at hP1
  exact kk _ o H1 locs1 ls hP1 hS1 (hg.up (by rw [kl_obj hk]; exact (r01_rg rv))) hl
theorem z_getIN {E : ET} {cc : ByteArray} {own : String} {S : List Kd} {G : Gw} {n fr lo : Nat} {σ : St} {pc : Nat} {L : List (Nat × Value)} {st : List Value} (X : Cx E cc own S G n fr lo) {β : Type} {K : β → St → Prop} {C : String} {T : u_T} {N ci idx k j : Nat} {fs : List Nat} (hd : decode cc pc = .ok (.getfield idx, 3)) (F : FN own idx ci j C T N) (hk : S[k]? = some (.inr (.inl (ci, fs)))) (h0 : fs[j]? = some 0) {g : Int → Rs β} (o : Ok (fld σ k j g) K) (kk : ∀ v, rg v → Ok (g v) K → At E σ (pc + 3) L (.int (pI v) :: st)) : At E σ pc L (.ref (G.2.2.1 k) :: st) := by
  obtain ⟨p, l, e, R, s, m, args, below, meth, c, Q, S', G', n'⟩ := E
  obtain ⟨rfl, rfl, rfl, hx, hb, hml, hown, hts, hK, hD, hN, hSk, hR⟩ := X
  intro H locs ls hP hS hg hl
  obtain ⟨hC, hin, hj, hT, host, hlk⟩ := F
  refine va_getN (v := .int (pI (σ k j))) hx hb hts hin hown hK hP k (lay_obj hk) hC j hj (va_Nw.use rfl (hN _ hlk)) (fun _ h9 => hT ▸ h9) (fv_at h0) hd ?_
  exact kk _ (hg.rg (kl_obj hk) _) o H locs ls hP hS hg hl
theorem z_getRN {E : ET} {cc : ByteArray} {own : String} {S : List Kd} {G : Gw} {n fr lo : Nat} {σ : St} {pc : Nat} {L : List (Nat × Value)} {st : List Value} (X : Cx E cc own S G n fr lo) {C : String} {T : u_T} {N ci idx k j : Nat} {fs : List Nat} (hd : decode cc pc = .ok (.getfield idx, 3)) (F : FN own idx ci j C T N) (hk : S[k]? = some (.inr (.inl (ci, fs)))) {q : Nat} (h0 : fs[j]? = some (q + 2)) (kk : At E σ (pc + 3) L (.ref (G.2.2.1 q) :: st)) : At E σ pc L (.ref (G.2.2.1 k) :: st) := by
  obtain ⟨p, l, e, R, s, m, args, below, meth, c, Q, S', G', n'⟩ := E
  obtain ⟨rfl, rfl, rfl, hx, hb, hml, hown, hts, hK, hD, hN, hSk, hR⟩ := X
  intro H locs ls hP hS hg hl
  obtain ⟨hC, hin, hj, hT, host, hlk⟩ := F
  refine va_getN (v := .ref (G'.2.2.1 q)) hx hb hts hin hown hK hP k (lay_obj hk) hC j hj (va_Nw.use rfl (hN _ hlk)) (fun _ h9 => hT ▸ h9) (fv_at h0) hd ?_
  exact kk H locs ls hP hS hg hl
theorem z_putIN {E : ET} {cc : ByteArray} {own : String} {S : List Kd} {G : Gw} {n fr lo : Nat} {σ : St} {pc : Nat} {L : List (Nat × Value)} {st : List Value} (X : Cx E cc own S G n fr lo) {β : Type} {K : β → St → Prop} {C : String} {T : u_T} {N ci idx k j : Nat} {fs : List Nat} (hd : decode cc pc = .ok (.putfield idx, 3)) (F : FN own idx ci j C T N) (hk : S[k]? = some (.inr (.inl (ci, fs)))) {ty0 : Nat → FieldType} (F2 : FT T N j .int ty0) (h0 : fs[j]? = some 0) {v : Int} (rv : rg v) {g : St → Rs β} (o : Ok (put σ k j v g) K) (kk : ∀ σ1, Ok (g σ1) K → At E σ1 (pc + 3) L st) : At E σ pc L (.int (pI v) :: .ref (G.2.2.1 k) :: st) := by
  obtain ⟨p, l, e, R, s, m, args, below, meth, c, Q, S', G', n'⟩ := E
  obtain ⟨rfl, rfl, rfl, hx, hb, hml, hown, hts, hK, hD, hN, hSk, hR⟩ := X
  intro H locs ls hP hS hg hl
  obtain ⟨hC, hin, hj, hT, host, hlk⟩ := F
  obtain ⟨f1, f2, f3, f4⟩ := F2
  refine va_putN (ty := .int) (v := .int (pI v)) hx hb hts hin ty0 f1 f2 hown hK hP (hD σ) hS k (lay_obj hk) hC j hj (va_Nw.use rfl (hN _ hlk)) (fun _ h9 => hT ▸ h9) f3 f4 rfl rfl (by have := (List.getElem?_eq_some_iff.mp h0).1; simpa using this) hd (fun H1 locs1 hP1 hD1 hS1 => ?_)
  rw [lay_set (σ' := up σ k j v) hk (by show _ = Sum.inr (ci, fs.mapIdx (fv G' (up σ k j v k))); rw [fv_set h0 (g := up σ k j v k) (by rw [up_at, if_pos rfl]) (fun i hi => by rw [up_at, if_neg hi])]) (fun k' h' => up_ne h')] at hP1
  exact kk _ o H1 locs1 ls hP1 hS1 (hg.up (by rw [kl_obj hk]; exact rv)) hl
theorem z_putZN {E : ET} {cc : ByteArray} {own : String} {S : List Kd} {G : Gw} {n fr lo : Nat} {σ : St} {pc : Nat} {L : List (Nat × Value)} {st : List Value} (X : Cx E cc own S G n fr lo) {β : Type} {K : β → St → Prop} {C : String} {T : u_T} {N ci idx k j : Nat} {fs : List Nat} (hd : decode cc pc = .ok (.putfield idx, 3)) (F : FN own idx ci j C T N) (hk : S[k]? = some (.inr (.inl (ci, fs)))) {ty0 : Nat → FieldType} (F2 : FT T N j .boolean ty0) (h0 : fs[j]? = some 0) {v : Int} (rv : r01 v) {g : St → Rs β} (o : Ok (put σ k j v g) K) (kk : ∀ σ1, Ok (g σ1) K → At E σ1 (pc + 3) L st) : At E σ pc L (.int (pI v) :: .ref (G.2.2.1 k) :: st) := by
  obtain ⟨p, l, e, R, s, m, args, below, meth, c, Q, S', G', n'⟩ := E
  obtain ⟨rfl, rfl, rfl, hx, hb, hml, hown, hts, hK, hD, hN, hSk, hR⟩ := X
  intro H locs ls hP hS hg hl
  obtain ⟨hC, hin, hj, hT, host, hlk⟩ := F
  obtain ⟨f1, f2, f3, f4⟩ := F2
  refine va_putN (ty := .boolean) (v := .int (pI v)) hx hb hts hin ty0 f1 f2 hown hK hP (hD σ) hS k (lay_obj hk) hC j hj (va_Nw.use rfl (hN _ hlk)) (fun _ h9 => hT ▸ h9) f3 f4 (by rcases rv with rfl | rfl <;> rfl) (by rcases rv with rfl | rfl <;> rfl) (by have := (List.getElem?_eq_some_iff.mp h0).1; simpa using this) hd (fun H1 locs1 hP1 hD1 hS1 => ?_)
  rw [lay_set (σ' := up σ k j v) hk (by show _ = Sum.inr (ci, fs.mapIdx (fv G' (up σ k j v k))); rw [fv_set h0 (g := up σ k j v k) (by rw [up_at, if_pos rfl]) (fun i hi => by rw [up_at, if_neg hi])]) (fun k' h' => up_ne h')] at hP1
  exact kk _ o H1 locs1 ls hP1 hS1 (hg.up (by rw [kl_obj hk]; exact (r01_rg rv))) hl
theorem z_iald {E : ET} {cc : ByteArray} {own : String} {S : List Kd} {G : Gw} {n fr lo : Nat} {σ : St} {pc : Nat} {L : List (Nat × Value)} {st : List Value} (X : Cx E cc own S G n fr lo) {β : Type} {K : β → St → Prop} {k len : Nat} {i : Int} (hd : decode cc pc = .ok (.iaload, 1)) (hk : S[k]? = some (.inl (0, len))) (ri : rg i) {g : Int → Rs β} (o : Ok (lod σ k len i g) K) (kk : ∀ v, rg v → Ok (g v) K → At E σ (pc + 1) L (.int (pI v) :: st)) : At E σ pc L (.int (pI i) :: .ref (G.2.2.1 k) :: st) := by
  obtain ⟨p, l, e, R, s, m, args, below, meth, c, Q, S', G', n'⟩ := E
  obtain ⟨rfl, rfl, rfl, hx, hb, hml, hown, hts, hK, hD, hN, hSk, hR⟩ := X
  intro H locs ls hP hS hg hl
  obtain ⟨hi, o⟩ := ok_gd o
  refine va_iald hx hb hK hP k 0 (lay_int hk) rfl (in_pI ri hi) hd ?_
  rw [clamp_pI ri, Int.toNat_of_nonneg hi.1]
  exact kk _ (hg.rg (kl_int hk) _) o H locs ls hP hS hg hl
theorem z_bald {E : ET} {cc : ByteArray} {own : String} {S : List Kd} {G : Gw} {n fr lo : Nat} {σ : St} {pc : Nat} {L : List (Nat × Value)} {st : List Value} (X : Cx E cc own S G n fr lo) {β : Type} {K : β → St → Prop} {k len : Nat} {i : Int} (hd : decode cc pc = .ok (.baload, 1)) (hk : S[k]? = some (.inl (1, len))) (ri : rg i) {g : Int → Rs β} (o : Ok (lod σ k len i g) K) (kk : ∀ v, rg v → Ok (g v) K → At E σ (pc + 1) L (.int (pI v) :: st)) : At E σ pc L (.int (pI i) :: .ref (G.2.2.1 k) :: st) := by
  obtain ⟨p, l, e, R, s, m, args, below, meth, c, Q, S', G', n'⟩ := E
  obtain ⟨rfl, rfl, rfl, hx, hb, hml, hown, hts, hK, hD, hN, hSk, hR⟩ := X
  intro H locs ls hP hS hg hl
  obtain ⟨hi, o⟩ := ok_gd o
  refine va_bald hx hb hK hP k 1 (lay_byte hk) rfl (in_pI ri hi) hd ?_
  rw [clamp_pI ri, Int.toNat_of_nonneg hi.1]
  exact kk _ (hg.rg (kl_byte hk) _) o H locs ls hP hS hg hl
theorem z_lald {E : ET} {cc : ByteArray} {own : String} {S : List Kd} {G : Gw} {n fr lo : Nat} {σ : St} {pc : Nat} {L : List (Nat × Value)} {st : List Value} (X : Cx E cc own S G n fr lo) {β : Type} {K : β → St → Prop} {k len : Nat} {i : Int} (hd : decode cc pc = .ok (.laload, 1)) (hk : S[k]? = some (.inl (2, len))) (ri : rg i) {g : Int → Rs β} (o : Ok (lod σ k len i g) K) (kk : ∀ v, rl v → Ok (g v) K → At E σ (pc + 1) L (.long (pJ v) :: st)) : At E σ pc L (.int (pI i) :: .ref (G.2.2.1 k) :: st) := by
  obtain ⟨p, l, e, R, s, m, args, below, meth, c, Q, S', G', n'⟩ := E
  obtain ⟨rfl, rfl, rfl, hx, hb, hml, hown, hts, hK, hD, hN, hSk, hR⟩ := X
  intro H locs ls hP hS hg hl
  obtain ⟨hi, o⟩ := ok_gd o
  refine va_lald hx hb hK hP k 2 (lay_long hk) rfl (in_pI ri hi) hd ?_
  rw [clamp_pI ri, Int.toNat_of_nonneg hi.1]
  exact kk _ (hg.rl (kl_long hk) _) o H locs ls hP hS hg hl
theorem z_iast {E : ET} {cc : ByteArray} {own : String} {S : List Kd} {G : Gw} {n fr lo : Nat} {σ : St} {pc : Nat} {L : List (Nat × Value)} {st : List Value} (X : Cx E cc own S G n fr lo) {β : Type} {K : β → St → Prop} {k len : Nat} {i v : Int} (hd : decode cc pc = .ok (.iastore, 1)) (hk : S[k]? = some (.inl (0, len))) (ri : rg i) (rv : rg v) {g : St → Rs β} (o : Ok (sto σ k len i v g) K) (kk : ∀ σ1, Ok (g σ1) K → At E σ1 (pc + 1) L st) : At E σ pc L (.int (pI v) :: .int (pI i) :: .ref (G.2.2.1 k) :: st) := by
  obtain ⟨p, l, e, R, s, m, args, below, meth, c, Q, S', G', n'⟩ := E
  obtain ⟨rfl, rfl, rfl, hx, hb, hml, hown, hts, hK, hD, hN, hSk, hR⟩ := X
  intro H locs ls hP hS hg hl
  obtain ⟨hi, o⟩ := ok_gd o
  refine va_iast hx hb hK hP (hD σ) hS k 0 (lay_int hk) rfl (in_pI ri hi) hd (fun H1 locs1 hP1 hD1 hS1 => ?_)
  rw [lay_set (σ' := up σ k i v) hk (by rw [upd_up hi.1 ri]; rfl) (fun k' h' => up_ne h')] at hP1
  exact kk _ o H1 locs1 ls hP1 hS1 (hg.up (by rw [kl_int hk]; exact rv)) hl
theorem z_bast {E : ET} {cc : ByteArray} {own : String} {S : List Kd} {G : Gw} {n fr lo : Nat} {σ : St} {pc : Nat} {L : List (Nat × Value)} {st : List Value} (X : Cx E cc own S G n fr lo) {β : Type} {K : β → St → Prop} {k len : Nat} {i v : Int} (hd : decode cc pc = .ok (.bastore, 1)) (hk : S[k]? = some (.inl (1, len))) (ri : rg i) (rv : -128 ≤ v ∧ v ≤ 127) {g : St → Rs β} (o : Ok (sto σ k len i v g) K) (kk : ∀ σ1, Ok (g σ1) K → At E σ1 (pc + 1) L st) : At E σ pc L (.int (pI v) :: .int (pI i) :: .ref (G.2.2.1 k) :: st) := by
  obtain ⟨p, l, e, R, s, m, args, below, meth, c, Q, S', G', n'⟩ := E
  obtain ⟨rfl, rfl, rfl, hx, hb, hml, hown, hts, hK, hD, hN, hSk, hR⟩ := X
  intro H locs ls hP hS hg hl
  obtain ⟨hi, o⟩ := ok_gd o
  refine va_bast hx hb hK hP (hD σ) hS k 1 (lay_byte hk) rfl (in_pI ri hi) hd (fun H1 locs1 hP1 hD1 hS1 => ?_)
  rw [lay_set (σ' := up σ k i v) hk (by rw [vp_nar_byte, nar_byte rv, upd_up hi.1 ri]; rfl) (fun k' h' => up_ne h')] at hP1
  exact kk _ o H1 locs1 ls hP1 hS1 (hg.up (by rw [kl_byte hk]; show rg v; unfold rg; omega)) hl
theorem z_last {E : ET} {cc : ByteArray} {own : String} {S : List Kd} {G : Gw} {n fr lo : Nat} {σ : St} {pc : Nat} {L : List (Nat × Value)} {st : List Value} (X : Cx E cc own S G n fr lo) {β : Type} {K : β → St → Prop} {k len : Nat} {i v : Int} (hd : decode cc pc = .ok (.lastore, 1)) (hk : S[k]? = some (.inl (2, len))) (ri : rg i) (rv : rl v) {g : St → Rs β} (o : Ok (sto σ k len i v g) K) (kk : ∀ σ1, Ok (g σ1) K → At E σ1 (pc + 1) L st) : At E σ pc L (.long (pJ v) :: .int (pI i) :: .ref (G.2.2.1 k) :: st) := by
  obtain ⟨p, l, e, R, s, m, args, below, meth, c, Q, S', G', n'⟩ := E
  obtain ⟨rfl, rfl, rfl, hx, hb, hml, hown, hts, hK, hD, hN, hSk, hR⟩ := X
  intro H locs ls hP hS hg hl
  obtain ⟨hi, o⟩ := ok_gd o
  refine va_last hx hb hK hP (hD σ) hS k 2 (lay_long hk) rfl (in_pI ri hi) hd (fun H1 locs1 hP1 hD1 hS1 => ?_)
  rw [lay_set (σ' := up σ k i v) hk (by rw [updL_up hi.1 ri]; rfl) (fun k' h' => up_ne h')] at hP1
  exact kk _ o H1 locs1 ls hP1 hS1 (hg.up (by rw [kl_long hk]; exact rv)) hl
theorem z_aald {E : ET} {cc : ByteArray} {own : String} {S : List Kd} {G : Gw} {n fr lo : Nat} {σ : St} {pc : Nat} {L : List (Nat × Value)} {st : List Value} (X : Cx E cc own S G n fr lo) {β : Type} {K : β → St → Prop} {k : Nat} {ids : List Nat} {i : Int} (hd : decode cc pc = .ok (.aaload, 1)) (hk : S[k]? = some (.inr (.inr ids))) (ri : rg i) {g : Nat → Rs β} (o : Ok (loa ids i g) K) (kk : ∀ q, q ∈ ids → Ok (g q) K → At E σ (pc + 1) L (.ref (G.2.2.1 q) :: st)) : At E σ pc L (.int (pI i) :: .ref (G.2.2.1 k) :: st) := by
  obtain ⟨p, l, e, R, s, m, args, below, meth, c, Q, S', G', n'⟩ := E
  obtain ⟨rfl, rfl, rfl, hx, hb, hml, hown, hts, hK, hD, hN, hSk, hR⟩ := X
  intro H locs ls hP hS hg hl
  obtain ⟨hi, o⟩ := ok_gd o
  refine va_aldq hx hb hK hP k 3 (lay_arr hk) rfl (in_pI ri hi) hd ?_
  have hlt : i.toNat < ids.length := by omega
  have h2 : ids[i.toNat]? = some ids[i.toNat] := List.getElem?_eq_getElem hlt
  have h3 : ids.getD i.toNat 0 = ids[i.toNat] := by simp [List.getD, h2]
  rw [clamp_pI ri]
  rw [h3] at o
  have h4 := kk _ (List.getElem_mem hlt) o H locs ls hP hS hg hl
  simp only [h2, Option.map_some]
  exact h4
theorem z_alen {E : ET} {cc : ByteArray} {own : String} {S : List Kd} {G : Gw} {n fr lo : Nat} {σ : St} {pc : Nat} {L : List (Nat × Value)} {st : List Value} (X : Cx E cc own S G n fr lo) {k len : Nat} (hd : decode cc pc = .ok (.arraylength, 1)) (hk : S[k]? = some (.inl (0, len))) (kk : At E σ (pc + 1) L (.int (pI len) :: st)) : At E σ pc L (.ref (G.2.2.1 k) :: st) := by
  obtain ⟨p, l, e, R, s, m, args, below, meth, c, Q, S', G', n'⟩ := E
  obtain ⟨rfl, rfl, rfl, hx, hb, hml, hown, hts, hK, hD, hN, hSk, hR⟩ := X
  intro H locs ls hP hS hg hl
  refine va_alen hx hb hK hP k 0 (lay_int hk) rfl rfl hd ?_
  exact kk H locs ls hP hS hg hl
theorem z_sub {E : ET} {cc : ByteArray} {own : String} {S : List Kd} {G : Gw} {n fr lo : Nat} {σ : St} {pc : Nat} {L : List (Nat × Value)} {st : List Value} (X : Cx E cc own S G n fr lo) {L1 : List (Nat × Value)} (ks : List Nat) (h : lv_pick L ks = L1) (k : At E σ pc L1 st) : At E σ pc L st := by
  obtain ⟨p, l, e, R, s, m, args, below, meth, c, Q, S', G', n'⟩ := E
  obtain ⟨rfl, rfl, rfl, hx, hb, hml, hown, hts, hK, hD, hN, hSk, hR⟩ := X
  intro H locs ls hP hS hg hl
  exact k H locs ls hP hS hg (lv_sub hl ks h)
theorem z_iret {E : ET} {cc : ByteArray} {own : String} {S : List Kd} {G : Gw} {n fr lo : Nat} {σ : St} {pc : Nat} (X : Cx E cc own S G n fr lo) {r v : Int} {pr : Int → Prop} {σ1 : St} {L : List (Nat × Value)} (Y : Rt E S G (some .int) (QI S G r pr σ1)) (hd : decode cc pc = .ok (.ireturn, 1)) (o : Ok (some (v, σ)) (fun x σ' => x = r ∧ σ' = σ1)) (hv : pr v) : At E σ pc L [.int (pI v)] := by
  obtain ⟨p, l, e, R, s, m, args, below, meth, c, Q, S', G', n'⟩ := E
  obtain ⟨rfl, rfl, rfl, hx, hb, hml, hown, hts, hK, hD, hN, hSk, hR⟩ := X
  obtain ⟨rfl, hr, hlocks⟩ := Y
  obtain ⟨rfl, rfl⟩ := ok_some o
  intro H locs ls hP hS hg hl
  exact W.iret hx hb hr (fun t ht hW => ⟨⟨_, (), rfl, ⟨rfl, hv⟩, by rw [ht]; exact hP, hg⟩, hS.F ht⟩) hS.2.2 hd
theorem z_zret {E : ET} {cc : ByteArray} {own : String} {S : List Kd} {G : Gw} {n fr lo : Nat} {σ : St} {pc : Nat} (X : Cx E cc own S G n fr lo) {r v : Int} {pr : Int → Prop} {σ1 : St} {L : List (Nat × Value)} (Y : Rt E S G (some .boolean) (QI S G r pr σ1)) (hd : decode cc pc = .ok (.ireturn, 1)) (o : Ok (some (v, σ)) (fun x σ' => x = r ∧ σ' = σ1)) (hv : pr v) (h01 : r01 v) : At E σ pc L [.int (pI v)] := by
  obtain ⟨p, l, e, R, s, m, args, below, meth, c, Q, S', G', n'⟩ := E
  obtain ⟨rfl, rfl, rfl, hx, hb, hml, hown, hts, hK, hD, hN, hSk, hR⟩ := X
  obtain ⟨rfl, hr, hlocks⟩ := Y
  obtain ⟨rfl, rfl⟩ := ok_some o
  intro H locs ls hP hS hg hl
  exact W.zret hx hb hr (by rcases h01 with rfl | rfl <;> rfl) (fun t ht hW => ⟨⟨_, (), rfl, ⟨rfl, hv⟩, by rw [ht]; exact hP, hg⟩, hS.F ht⟩) hS.2.2 hd
theorem z_vret {E : ET} {cc : ByteArray} {own : String} {S : List Kd} {G : Gw} {n fr lo : Nat} {σ : St} {pc : Nat} (X : Cx E cc own S G n fr lo) {r v : Int} {σ1 : St} {L : List (Nat × Value)} (Y : Rt E S G none (QV S G σ1)) (hd : decode cc pc = .ok (.return_, 1)) (o : Ok (some (v, σ)) (fun x σ' => x = r ∧ σ' = σ1)) : At E σ pc L [] := by
  obtain ⟨p, l, e, R, s, m, args, below, meth, c, Q, S', G', n'⟩ := E
  obtain ⟨rfl, rfl, rfl, hx, hb, hml, hown, hts, hK, hD, hN, hSk, hR⟩ := X
  obtain ⟨rfl, hr, hlocks⟩ := Y
  obtain ⟨-, rfl⟩ := ok_some o
  intro H locs ls hP hS hg hl
  exact W.vret hx hb hr (fun t ht hW => ⟨⟨(), rfl, trivial, by rw [ht]; exact hP, hg⟩, hS.F ht⟩) hS.2.2 hd
theorem z_aret {E : ET} {cc : ByteArray} {own : String} {S : List Kd} {G : Gw} {n fr lo : Nat} {σ : St} {pc : Nat} (X : Cx E cc own S G n fr lo) {r : Int} {q : Nat} {pr : Int → Prop} {σ1 : St} {L : List (Nat × Value)} {C : String} (Y : Rt E S G (some (.object C)) (QR S G r pr σ1)) (hd : decode cc pc = .ok (.areturn, 1)) (o : Ok (some ((q : Int), σ)) (fun x σ' => x = r ∧ σ' = σ1)) (hv : pr q) : At E σ pc L [.ref (G.2.2.1 q)] := by
  obtain ⟨p, l, e, R, s, m, args, below, meth, c, Q, S', G', n'⟩ := E
  obtain ⟨rfl, rfl, rfl, hx, hb, hml, hown, hts, hK, hD, hN, hSk, hR⟩ := X
  obtain ⟨rfl, hr, hlocks⟩ := Y
  obtain ⟨rfl, rfl⟩ := ok_some o
  intro H locs ls hP hS hg hl
  exact W.aret hx hb hr (Or.inl ⟨_, rfl⟩) (Or.inr ⟨_, rfl⟩) (fun t ht hW => ⟨⟨(), _, rfl, hv, by simp, by rw [ht]; exact hP, hg⟩, hS.F ht⟩) hS.2.2 hd
