/-- a called method's words -/
def WV (y : MethodName) (b : ByteArray) (n : Nat) (ret : Option FieldType) (na : Nat) : Prop := Cond.instanceMethod y ∈ tbl ∧ Cond.selects y.cls y y ∈ tbl ∧ Cond.initialized y.cls ∈ tbl ∧ Cond.code y b n ret ∈ tbl ∧ y.cls ≠ "java/lang/invoke/MethodHandle" ∧ y.cls ≠ "java/lang/invoke/VarHandle" ∧ (parseMethodDescriptor y.desc).map (fun d => d.parameters.length) = some na
def WS (y : MethodName) (b : ByteArray) (n : Nat) (ret : Option FieldType) (na : Nat) : Prop := Cond.static y ∈ tbl ∧ Cond.initialized y.cls ∈ tbl ∧ Cond.code y b n ret ∈ tbl ∧ y.cls ≠ "java/lang/invoke/MethodHandle" ∧ y.cls ≠ "java/lang/invoke/VarHandle" ∧ (parseMethodDescriptor y.desc).map (fun d => d.parameters.length) = some na
theorem pw_blind {S : List Kd} {G : Gw} {σ : St} {sz : Nat} {as : List Value} : FrameBlind (va_Pc as (Pw S G σ sz)) := by
  intro a U g mk q
  obtain ⟨q0, q1, qP, qK, qD, qg, qN, qS⟩ := q
  exact ⟨q0, q1, qP, va_K.moved (u := U) (U := U.calling g mk a) (Vm.Alike.refl U.vm) qK, qD, qg, Nws.same (u := U) (U := U.calling g mk a) rfl qN, Sk.same (u := U) (U := U.calling g mk a) rfl rfl qS⟩
theorem aA_sub {S : List Kd} {G : Gw} {a b : Nat} (h : a ≤ b) : ∀ q, aA S G b q → aA S G a q := by
  intro q hq
  rcases hq with hq | hq
  · exact Or.inl hq
  · exact Or.inr (Nat.le_trans h hq)
theorem gdV {own : String} {idx : Nat} {y : MethodName} {b : ByteArray} {n na : Nat} {ret : Option FieldType} (w : WV y b n ret na) (hl : Cond.methodLink own idx y ∈ tbl) : GoodIn tbl (wsV own idx y.cls y (wY y b n ret)) := by
  obtain ⟨w1, w2, w3, w4, -⟩ := w
  apply tbG
  intro w hw
  rcases List.mem_append.mp hw with h | h
  · simp only [List.mem_cons, List.not_mem_nil, or_false] at h
    rcases h with rfl | rfl | rfl | rfl <;> assumption
  · rcases List.mem_cons.mp h with rfl | h
    · exact w4
    · exact h
theorem gdS {own : String} {idx : Nat} {y : MethodName} {b : ByteArray} {n na : Nat} {ret : Option FieldType} (w : WS y b n ret na) (hl : Cond.methodLink own idx y ∈ tbl) : GoodIn tbl (va_wsS own idx y (wY y b n ret)) := by
  obtain ⟨w1, w3, w4, -⟩ := w
  apply tbG
  intro w hw
  rcases List.mem_append.mp hw with h | h
  · simp only [List.mem_cons, List.not_mem_nil, or_false] at h
    rcases h with rfl | rfl | rfl <;> assumption
  · rcases List.mem_cons.mp h with rfl | h
    · exact w4
    · exact h
theorem gdN {y : MethodName} {b : ByteArray} {n na : Nat} {ret : Option FieldType} (w : WS y b n ret na) : GoodIn tbl (wY y b n ret) := by
  obtain ⟨w1, w3, w4, -⟩ := w
  apply tbG
  intro w hw
  rcases List.mem_cons.mp hw with rfl | h
  · exact w4
  · exact h
theorem z_callvI {E : ET} {cc : ByteArray} {own : String} {S : List Kd} {G : Gw} {n fr lo : Nat} {σ : St} {pc : Nat} {L : List (Nat × Value)} {st : List Value} (X : Cx E cc own S G n fr lo) {β : Type} {K : β → St → Prop} {idx na n1 fr1 lo1 : Nat} {y : MethodName} {b1 : ByteArray} {ret1 : Option FieldType} {h : Rs Int} {kf : Int → St → Rs β} {pr : Int → Prop} (hd : decode cc pc = .ok (.invokevirtual idx, 3)) (hlk : Cond.methodLink own idx y ∈ tbl) (w : WV y b1 n1 ret1 na) {k ci : Nat} {fs : List Nat} {T : u_T} {N : Nat} (hk : S[k]? = some (.inr (.inl (ci, fs)))) (hc : vwCl[ci]? = some (y.cls, T, N)) (hR : fr1 + 1 ≤ fr ∧ 8 + (n1 + 11) + lo1 ≤ lo) (As rest : List Value) (hst : st = As.reverse ++ .ref (G.2.2.1 k) :: rest) (hna : As.length = na) (hrm : (rest.map fun v => v.category).sum ≤ 8) (hct : ∀ r σ1, h = some (r, σ1) → Ct y b1 n1 ret1 fr1 lo1 S G (.ref (G.2.2.1 k) :: As) σ (QI S G r pr σ1)) (o : Ok (bnd h kf) K) (kk : ∀ r σ1, pr r → Ok (kf r σ1) K → At E σ1 (pc + 3) L (.int (pI r) :: rest)) : At E σ pc L st := by
  obtain ⟨p, l, e, R, s, m, args, below, meth, c, Q, S', G', n'⟩ := E
  obtain ⟨rfl, rfl, rfl, hx, hb, hml, hown, hts, hK, hD, hN, hSk, hR0⟩ := X
  intro H locs ls hP hS hg hl
  subst hst
  subst hR0
  obtain ⟨r, σ1, e1, o⟩ := ok_bnd o
  have hc1 := hct r σ1 e1
  refine va_calli (va_runV (As := As) (rest := rest) ⟨hx, hb, hml, hown, hts⟩ (hc1 l H.size) (cwV na hts (gdV w hlk) rfl rfl rfl ⟨rfl, w.2.2.2.2⟩ hR) ⟨pw_blind, va_recv hK hP hc (lay_obj hk), fun U hU hW => ⟨rfl, by rw [hU], by rw [hU]; exact hP, va_K.moved hW.alike hK, ⟨(hD σ).1, fun _ _ _ => trivial⟩, hg, hN.warm hW, hSk.go hS hU hW (aA_sub hS.1)⟩⟩ rfl hna hl.1 rfl (lv_room hrm) hd ⟨Nat.zero_le _, Nat.zero_le _⟩) hS (fun q _ hq => aA_sub hS.1 q hq) (fun q hq => aA_sub hS.1 q hq) (fun r32 u t H1 locs1 ht hvm hw hB hz1 hk1 hS1 => ?_)
  obtain ⟨rfl, hpr⟩ := hw
  obtain ⟨hP1, hg1⟩ := hB
  rw [ht] at hP1
  exact kk r σ1 hpr o H1 locs1 ls hP1 hS1 hg1 hl
theorem z_callvV {E : ET} {cc : ByteArray} {own : String} {S : List Kd} {G : Gw} {n fr lo : Nat} {σ : St} {pc : Nat} {L : List (Nat × Value)} {st : List Value} (X : Cx E cc own S G n fr lo) {β : Type} {K : β → St → Prop} {idx na n1 fr1 lo1 : Nat} {y : MethodName} {b1 : ByteArray} {ret1 : Option FieldType} {h : Rs Int} {kf : Int → St → Rs β}  (hd : decode cc pc = .ok (.invokevirtual idx, 3)) (hlk : Cond.methodLink own idx y ∈ tbl) (w : WV y b1 n1 ret1 na) {k ci : Nat} {fs : List Nat} {T : u_T} {N : Nat} (hk : S[k]? = some (.inr (.inl (ci, fs)))) (hc : vwCl[ci]? = some (y.cls, T, N)) (hR : fr1 + 1 ≤ fr ∧ 8 + (n1 + 11) + lo1 ≤ lo) (As rest : List Value) (hst : st = As.reverse ++ .ref (G.2.2.1 k) :: rest) (hna : As.length = na) (hrm : (rest.map fun v => v.category).sum ≤ 8) (hct : ∀ r σ1, h = some (r, σ1) → Ct y b1 n1 ret1 fr1 lo1 S G (.ref (G.2.2.1 k) :: As) σ (QV S G σ1)) (o : Ok (bnd h kf) K) (kk : ∀ r σ1, Ok (kf r σ1) K → At E σ1 (pc + 3) L rest) : At E σ pc L st := by
  obtain ⟨p, l, e, R, s, m, args, below, meth, c, Q, S', G', n'⟩ := E
  obtain ⟨rfl, rfl, rfl, hx, hb, hml, hown, hts, hK, hD, hN, hSk, hR0⟩ := X
  intro H locs ls hP hS hg hl
  subst hst
  subst hR0
  obtain ⟨r, σ1, e1, o⟩ := ok_bnd o
  have hc1 := hct r σ1 e1
  refine va_callv (va_runV (As := As) (rest := rest) ⟨hx, hb, hml, hown, hts⟩ (hc1 l H.size) (cwV na hts (gdV w hlk) rfl rfl rfl ⟨rfl, w.2.2.2.2⟩ hR) ⟨pw_blind, va_recv hK hP hc (lay_obj hk), fun U hU hW => ⟨rfl, by rw [hU], by rw [hU]; exact hP, va_K.moved hW.alike hK, ⟨(hD σ).1, fun _ _ _ => trivial⟩, hg, hN.warm hW, hSk.go hS hU hW (aA_sub hS.1)⟩⟩ rfl hna hl.1 rfl (lv_room hrm) hd ⟨Nat.zero_le _, Nat.zero_le _⟩) hS (fun q _ hq => aA_sub hS.1 q hq) (fun q hq => aA_sub hS.1 q hq) (fun u t H1 locs1 ht hvm hw hB hz1 hk1 hS1 => ?_)
  obtain ⟨hP1, hg1⟩ := hB
  rw [ht] at hP1
  exact kk r σ1 o H1 locs1 ls hP1 hS1 hg1 hl
theorem z_callvR {E : ET} {cc : ByteArray} {own : String} {S : List Kd} {G : Gw} {n fr lo : Nat} {σ : St} {pc : Nat} {L : List (Nat × Value)} {st : List Value} (X : Cx E cc own S G n fr lo) {β : Type} {K : β → St → Prop} {idx na n1 fr1 lo1 : Nat} {y : MethodName} {b1 : ByteArray} {ret1 : Option FieldType} {h : Rs Int} {kf : Int → St → Rs β} {pr : Int → Prop} (hd : decode cc pc = .ok (.invokevirtual idx, 3)) (hlk : Cond.methodLink own idx y ∈ tbl) (w : WV y b1 n1 ret1 na) {k ci : Nat} {fs : List Nat} {T : u_T} {N : Nat} (hk : S[k]? = some (.inr (.inl (ci, fs)))) (hc : vwCl[ci]? = some (y.cls, T, N)) (hR : fr1 + 1 ≤ fr ∧ 8 + (n1 + 11) + lo1 ≤ lo) (As rest : List Value) (hst : st = As.reverse ++ .ref (G.2.2.1 k) :: rest) (hna : As.length = na) (hrm : (rest.map fun v => v.category).sum ≤ 8) (hct : ∀ r σ1, h = some (r, σ1) → Ct y b1 n1 ret1 fr1 lo1 S G (.ref (G.2.2.1 k) :: As) σ (QR S G r pr σ1)) (o : Ok (bnd h kf) K) (kk : ∀ r σ1, pr r → Ok (kf r σ1) K → At E σ1 (pc + 3) L (.ref (G.2.2.1 r.toNat) :: rest)) : At E σ pc L st := by
  obtain ⟨p, l, e, R, s, m, args, below, meth, c, Q, S', G', n'⟩ := E
  obtain ⟨rfl, rfl, rfl, hx, hb, hml, hown, hts, hK, hD, hN, hSk, hR0⟩ := X
  intro H locs ls hP hS hg hl
  subst hst
  subst hR0
  obtain ⟨r, σ1, e1, o⟩ := ok_bnd o
  have hc1 := hct r σ1 e1
  refine va_callr (va_runV (As := As) (rest := rest) ⟨hx, hb, hml, hown, hts⟩ (hc1 l H.size) (cwV na hts (gdV w hlk) rfl rfl rfl ⟨rfl, w.2.2.2.2⟩ hR) ⟨pw_blind, va_recv hK hP hc (lay_obj hk), fun U hU hW => ⟨rfl, by rw [hU], by rw [hU]; exact hP, va_K.moved hW.alike hK, ⟨(hD σ).1, fun _ _ _ => trivial⟩, hg, hN.warm hW, hSk.go hS hU hW (aA_sub hS.1)⟩⟩ rfl hna hl.1 rfl (lv_room hrm) hd ⟨Nat.zero_le _, Nat.zero_le _⟩) hS (fun q _ hq => aA_sub hS.1 q hq) (fun q hq => aA_sub hS.1 q hq) (fun u ra t H1 locs1 ht hvm hw hB hz1 hk1 hS1 => ?_)
  obtain ⟨rfl, hP1, hg1⟩ := hB
  rw [ht] at hP1
  exact kk r σ1 hw o H1 locs1 ls hP1 hS1 hg1 hl
theorem z_callsI {E : ET} {cc : ByteArray} {own : String} {S : List Kd} {G : Gw} {n fr lo : Nat} {σ : St} {pc : Nat} {L : List (Nat × Value)} {st : List Value} (X : Cx E cc own S G n fr lo) {β : Type} {K : β → St → Prop} {idx na n1 fr1 lo1 : Nat} {y : MethodName} {b1 : ByteArray} {ret1 : Option FieldType} {h : Rs Int} {kf : Int → St → Rs β} {pr : Int → Prop} (hd : decode cc pc = .ok (.invokestatic idx, 3)) (hlk : Cond.methodLink own idx y ∈ tbl) (w : WS y b1 n1 ret1 na)  (hR : fr1 + 1 ≤ fr ∧ 8 + (n1 + 11) + lo1 ≤ lo) (As rest : List Value) (hst : st = As.reverse ++ rest) (hna : As.length = na) (hrm : (rest.map fun v => v.category).sum ≤ 8) (hct : ∀ r σ1, h = some (r, σ1) → Ct y b1 n1 ret1 fr1 lo1 S G As σ (QI S G r pr σ1)) (o : Ok (bnd h kf) K) (kk : ∀ r σ1, pr r → Ok (kf r σ1) K → At E σ1 (pc + 3) L (.int (pI r) :: rest)) : At E σ pc L st := by
  obtain ⟨p, l, e, R, s, m, args, below, meth, c, Q, S', G', n'⟩ := E
  obtain ⟨rfl, rfl, rfl, hx, hb, hml, hown, hts, hK, hD, hN, hSk, hR0⟩ := X
  intro H locs ls hP hS hg hl
  subst hst
  subst hR0
  obtain ⟨r, σ1, e1, o⟩ := ok_bnd o
  have hc1 := hct r σ1 e1
  refine va_calli (va_runS (As := As) (rest := rest) ⟨hx, hb, hml, hown, hts⟩ (hc1 l H.size) (va_cwS na hts (gdS w hlk) rfl rfl rfl w.2.2.2 hR) ⟨pw_blind, fun U hU hW => ⟨rfl, by rw [hU], by rw [hU]; exact hP, va_K.moved hW.alike hK, ⟨(hD σ).1, fun _ _ _ => trivial⟩, hg, hN.warm hW, hSk.go hS hU hW (aA_sub hS.1)⟩⟩ rfl hna hl.1 rfl (lv_room hrm) hd ⟨Nat.zero_le _, Nat.zero_le _⟩) hS (fun q _ hq => aA_sub hS.1 q hq) (fun q hq => aA_sub hS.1 q hq) (fun r32 u t H1 locs1 ht hvm hw hB hz1 hk1 hS1 => ?_)
  obtain ⟨rfl, hpr⟩ := hw
  obtain ⟨hP1, hg1⟩ := hB
  rw [ht] at hP1
  exact kk r σ1 hpr o H1 locs1 ls hP1 hS1 hg1 hl
theorem z_callsV {E : ET} {cc : ByteArray} {own : String} {S : List Kd} {G : Gw} {n fr lo : Nat} {σ : St} {pc : Nat} {L : List (Nat × Value)} {st : List Value} (X : Cx E cc own S G n fr lo) {β : Type} {K : β → St → Prop} {idx na n1 fr1 lo1 : Nat} {y : MethodName} {b1 : ByteArray} {ret1 : Option FieldType} {h : Rs Int} {kf : Int → St → Rs β}  (hd : decode cc pc = .ok (.invokestatic idx, 3)) (hlk : Cond.methodLink own idx y ∈ tbl) (w : WS y b1 n1 ret1 na)  (hR : fr1 + 1 ≤ fr ∧ 8 + (n1 + 11) + lo1 ≤ lo) (As rest : List Value) (hst : st = As.reverse ++ rest) (hna : As.length = na) (hrm : (rest.map fun v => v.category).sum ≤ 8) (hct : ∀ r σ1, h = some (r, σ1) → Ct y b1 n1 ret1 fr1 lo1 S G As σ (QV S G σ1)) (o : Ok (bnd h kf) K) (kk : ∀ r σ1, Ok (kf r σ1) K → At E σ1 (pc + 3) L rest) : At E σ pc L st := by
  obtain ⟨p, l, e, R, s, m, args, below, meth, c, Q, S', G', n'⟩ := E
  obtain ⟨rfl, rfl, rfl, hx, hb, hml, hown, hts, hK, hD, hN, hSk, hR0⟩ := X
  intro H locs ls hP hS hg hl
  subst hst
  subst hR0
  obtain ⟨r, σ1, e1, o⟩ := ok_bnd o
  have hc1 := hct r σ1 e1
  refine va_callv (va_runS (As := As) (rest := rest) ⟨hx, hb, hml, hown, hts⟩ (hc1 l H.size) (va_cwS na hts (gdS w hlk) rfl rfl rfl w.2.2.2 hR) ⟨pw_blind, fun U hU hW => ⟨rfl, by rw [hU], by rw [hU]; exact hP, va_K.moved hW.alike hK, ⟨(hD σ).1, fun _ _ _ => trivial⟩, hg, hN.warm hW, hSk.go hS hU hW (aA_sub hS.1)⟩⟩ rfl hna hl.1 rfl (lv_room hrm) hd ⟨Nat.zero_le _, Nat.zero_le _⟩) hS (fun q _ hq => aA_sub hS.1 q hq) (fun q hq => aA_sub hS.1 q hq) (fun u t H1 locs1 ht hvm hw hB hz1 hk1 hS1 => ?_)
  obtain ⟨hP1, hg1⟩ := hB
  rw [ht] at hP1
  exact kk r σ1 o H1 locs1 ls hP1 hS1 hg1 hl
theorem z_callsIN {E : ET} {cc : ByteArray} {own : String} {S : List Kd} {G : Gw} {n fr lo : Nat} {σ : St} {pc : Nat} {L : List (Nat × Value)} {st : List Value} (X : Cx E cc own S G n fr lo) {β : Type} {K : β → St → Prop} {idx na n1 fr1 lo1 : Nat} {y : MethodName} {b1 : ByteArray} {ret1 : Option FieldType} {h : Rs Int} {kf : Int → St → Rs β} {pr : Int → Prop} (hd : decode cc pc = .ok (.invokestatic idx, 3)) {host : String} (hlk : Cond.methodLinkNest own idx y host ∈ nst) (w : WS y b1 n1 ret1 na)  (hR : fr1 + 1 ≤ fr ∧ 8 + (n1 + 11) + lo1 ≤ lo) (As rest : List Value) (hst : st = As.reverse ++ rest) (hna : As.length = na) (hrm : (rest.map fun v => v.category).sum ≤ 8) (hct : ∀ r σ1, h = some (r, σ1) → Ct y b1 n1 ret1 fr1 lo1 S G As σ (QI S G r pr σ1)) (o : Ok (bnd h kf) K) (kk : ∀ r σ1, pr r → Ok (kf r σ1) K → At E σ1 (pc + 3) L (.int (pI r) :: rest)) : At E σ pc L st := by
  obtain ⟨p, l, e, R, s, m, args, below, meth, c, Q, S', G', n'⟩ := E
  obtain ⟨rfl, rfl, rfl, hx, hb, hml, hown, hts, hK, hD, hN, hSk, hR0⟩ := X
  intro H locs ls hP hS hg hl
  subst hst
  subst hR0
  obtain ⟨r, σ1, e1, o⟩ := ok_bnd o
  have hc1 := hct r σ1 e1
  refine va_calli (va_runSN (As := As) (rest := rest) ⟨hx, hb, hml, hown, hts⟩ (hc1 l H.size) ⟨va_cnB na hts (gdN w) rfl rfl rfl (hN _ hlk) (hts _ w.2.1) w.2.2.2 hR, hts _ w.1, trivial⟩ ⟨pw_blind, fun U hU hW => ⟨rfl, by rw [hU], by rw [hU]; exact hP, va_K.moved hW.alike hK, ⟨(hD σ).1, fun _ _ _ => trivial⟩, hg, hN.warm hW, hSk.go hS hU hW (aA_sub hS.1)⟩⟩ rfl hna hl.1 rfl (lv_room hrm) hd ⟨Nat.zero_le _, Nat.zero_le _⟩) hS (fun q _ hq => aA_sub hS.1 q hq) (fun q hq => aA_sub hS.1 q hq) (fun r32 u t H1 locs1 ht hvm hw hB hz1 hk1 hS1 => ?_)
  obtain ⟨rfl, hpr⟩ := hw
  obtain ⟨hP1, hg1⟩ := hB
  rw [ht] at hP1
  exact kk r σ1 hpr o H1 locs1 ls hP1 hS1 hg1 hl
theorem z_mmax {E : ET} {cc : ByteArray} {own : String} {S : List Kd} {G : Gw} {n fr lo : Nat} {σ : St} {pc : Nat} {L : List (Nat × Value)} {st : List Value} (X : Cx E cc own S G n fr lo) {a b : Int} {idx : Nat} (hd : decode cc pc = .ok (.invokestatic idx, 3)) (h1 : Cond.methodLink own idx Lib.Math.max.name ∈ tbl) (h2 : Cond.static Lib.Math.max.name ∈ tbl) (h3 : Cond.initialized "java/lang/Math" ∈ tbl) (h4 : Cond.code Lib.Math.max.name Lib.Math.max.code 2 (some .int) ∈ tbl) (hfr : 1 ≤ fr) (hlo : (st.map fun v => v.category).sum + 13 ≤ lo) (ra : rg a) (rb : rg b) (k : At E σ (pc + 3) L (.int (pI (imx a b)) :: st)) : At E σ pc L (.int (pI b) :: .int (pI a) :: st) := by
  obtain ⟨p, l, e, R, s, m, args, below, meth, c, Q, S', G', n'⟩ := E
  obtain ⟨rfl, rfl, rfl, hx, hb, hml, hown, hts, hK, hD, hN, hSk, hR⟩ := X
  intro H locs ls hP hS hg hl
  subst hR
  exact va_mmax hx hb (by rw [hml]; exact hl.1.symm) hown (hts _ h1) (hts _ h2) (hts _ h3) (hts _ h4) hfr hlo (Nat.zero_le _) (Nat.zero_le _) hd
    (by
      have k1 := k H locs ls hP hS hg hl
      have e1 : (if pI a < pI b then pI b else pI a) = pI (imx a b) := by
        unfold imx
        by_cases hh : a < b
        · rw [if_pos hh, if_pos ((pI_lt ra rb).mpr hh)]
        · rw [if_neg hh, if_neg (fun q => hh ((pI_lt ra rb).mp q))]
      rw [e1]
      exact k1)
theorem z_mmin {E : ET} {cc : ByteArray} {own : String} {S : List Kd} {G : Gw} {n fr lo : Nat} {σ : St} {pc : Nat} {L : List (Nat × Value)} {st : List Value} (X : Cx E cc own S G n fr lo) {a b : Int} {idx : Nat} (hd : decode cc pc = .ok (.invokestatic idx, 3)) (h1 : Cond.methodLink own idx Lib.Math.min.name ∈ tbl) (h2 : Cond.static Lib.Math.min.name ∈ tbl) (h3 : Cond.initialized "java/lang/Math" ∈ tbl) (h4 : Cond.code Lib.Math.min.name Lib.Math.min.code 2 (some .int) ∈ tbl) (hfr : 1 ≤ fr) (hlo : (st.map fun v => v.category).sum + 13 ≤ lo) (ra : rg a) (rb : rg b) (k : At E σ (pc + 3) L (.int (pI (imn a b)) :: st)) : At E σ pc L (.int (pI b) :: .int (pI a) :: st) := by
  obtain ⟨p, l, e, R, s, m, args, below, meth, c, Q, S', G', n'⟩ := E
  obtain ⟨rfl, rfl, rfl, hx, hb, hml, hown, hts, hK, hD, hN, hSk, hR⟩ := X
  intro H locs ls hP hS hg hl
  subst hR
  exact va_mmin hx hb (by rw [hml]; exact hl.1.symm) hown (hts _ h1) (hts _ h2) (hts _ h3) (hts _ h4) hfr hlo (Nat.zero_le _) (Nat.zero_le _) hd
    (by
      have k1 := k H locs ls hP hS hg hl
      have e1 : (if pI b < pI a then pI b else pI a) = pI (imn a b) := by
        unfold imn
        by_cases hh : b < a
        · rw [if_pos hh, if_pos ((pI_lt rb ra).mpr hh)]
        · rw [if_neg hh, if_neg (fun q => hh ((pI_lt rb ra).mp q))]
      rw [e1]
      exact k1)
theorem z_mabs {E : ET} {cc : ByteArray} {own : String} {S : List Kd} {G : Gw} {n fr lo : Nat} {σ : St} {pc : Nat} {L : List (Nat × Value)} {st : List Value} (X : Cx E cc own S G n fr lo) {a : Int} {idx : Nat} (hd : decode cc pc = .ok (.invokestatic idx, 3)) (h1 : Cond.methodLink own idx Lib.Math.abs.name ∈ tbl) (h2 : Cond.static Lib.Math.abs.name ∈ tbl) (h3 : Cond.initialized "java/lang/Math" ∈ tbl) (h4 : Cond.code Lib.Math.abs.name Lib.Math.abs.code 1 (some .int) ∈ tbl) (hfr : 1 ≤ fr) (hlo : (st.map fun v => v.category).sum + 13 ≤ lo) (ra : rg a) (k : At E σ (pc + 3) L (.int (pI (iab a)) :: st)) : At E σ pc L (.int (pI a) :: st) := by
  obtain ⟨p, l, e, R, s, m, args, below, meth, c, Q, S', G', n'⟩ := E
  obtain ⟨rfl, rfl, rfl, hx, hb, hml, hown, hts, hK, hD, hN, hSk, hR⟩ := X
  intro H locs ls hP hS hg hl
  subst hR
  exact va_mabs hx hb (by rw [hml]; exact hl.1.symm) hown (hts _ h1) (hts _ h2) (hts _ h3) (hts _ h4) hfr hlo (Nat.zero_le _) (Nat.zero_le _) hd
    (by
      have k1 := k H locs ls hP hS hg hl
      have e1 : (if 0 ≤ pI a then pI a else 0 - pI a) = pI (iab a) := by
        unfold iab
        by_cases hh : 0 ≤ a
        · rw [if_pos hh, if_pos ((pI_gez ra).mpr hh)]
        · rw [if_neg hh, if_neg (fun q => hh ((pI_gez ra).mp q)), ← pI_sub]
          rfl
      rw [e1]
      exact k1)
theorem z_copy {E : ET} {cc : ByteArray} {own : String} {S : List Kd} {G : Gw} {n fr lo : Nat} {σ : St} {pc : Nat} {L : List (Nat × Value)} {st : List Value} (X : Cx E cc own S G n fr lo) {β : Type} {K : β → St → Prop} {idx k1 n1 k2 n2 : Nat} {sp dp m1 : Int} (hd : decode cc pc = .ok (.invokestatic idx, 3)) (h1 : Cond.methodLink own idx arraycopyName ∈ tbl) (h2 : Cond.native arraycopyName ∈ tbl) (h3 : Cond.static arraycopyName ∈ tbl) (h4 : Cond.initialized "java/lang/System" ∈ tbl) (hk1 : S[k1]? = some (.inl (0, n1))) (hk2 : S[k2]? = some (.inl (0, n2))) (r1 : rg sp) (r2 : rg dp) (r3 : rg m1) (hfr : 1 ≤ fr) (hlo : (st.map fun v => v.category).sum + (nativeFrameWords "java/lang/System" "arraycopy" 5 + 11) ≤ lo) {g : St → Rs β} (o : Ok (cpy σ k1 n1 sp k2 n2 dp m1 g) K) (k : ∀ σ1, Ok (g σ1) K → At E σ1 (pc + 3) L st) : At E σ pc L (.int (pI m1) :: .int (pI dp) :: .ref (G.2.2.1 k2) :: .int (pI sp) :: .ref (G.2.2.1 k1) :: st) := by
  obtain ⟨p, l, e, R, s, m, args, below, meth, c, Q, S', G', n'⟩ := E
  obtain ⟨rfl, rfl, rfl, hx, hb, hml, hown, hts, hK, hD, hN, hSk, hR⟩ := X
  intro H locs ls hP hS hg hl
  subst hR
  obtain ⟨⟨i1, i2, i3, i4, i5⟩, o⟩ := ok_gd o
  refine va_copyi hx hb (by rw [hml]; exact hl.1.symm) hown (hts _ h1) (hts _ h2) (hts _ h3) (hts _ h4) hK hP (hD σ) hS k1 k2 0 0 (lay_int hk1) (lay_int hk2) rfl rfl rfl (fun q => by rw [pI_ltz r1] at q; omega) (fun q => by rw [pI_ltz r2] at q; omega) (fun q => by rw [pI_ltz r3] at q; omega) (by rw [clamp_pI r1, clamp_pI r3]; omega) (by rw [clamp_pI r2, clamp_pI r3]; omega) (fun _ _ => rfl) hfr hlo hd (fun H1 locs1 hP1 hD1 hS1 => ?_)
  rw [lay_set (σ' := cp σ k1 sp k2 dp m1) hk2 (by
    show Sum.inl (G'.2.1 0, n2, Sum.inl _) = Sum.inl (G'.2.1 0, n2, Sum.inl fun j : Nat => pI (cp σ k1 sp k2 dp m1 k2 j))
    congr 3
    congr 1
    funext j
    rw [clamp_pI r1, clamp_pI r2, clamp_pI r3]
    unfold va_cpy cp
    by_cases hj : dp.toNat ≤ j ∧ j < dp.toNat + m1.toNat
    · rw [if_pos hj, if_pos (by omega)]
      show pI (σ k1 ((sp.toNat + (j - dp.toNat) : Nat) : Int)) = _
      rw [show ((sp.toNat + (j - dp.toNat) : Nat) : Int) = sp + ((j : Int) - dp) by omega]
    · rw [if_neg hj, if_neg (by omega)]) (fun k' h' => by
    funext i
    unfold cp
    rw [if_neg (fun q => h' q.1)])] at hP1
  refine k _ o H1 locs1 ls hP1 hS1 (fun k' i => ?_) hl
  unfold cp
  by_cases hc : k' = k2 ∧ dp ≤ i ∧ i < dp + m1
  · simp only [if_pos hc]
    rw [hc.1, kl_int hk2]
    exact hg.rg (kl_int hk1) _
  · simp only [if_neg hc]
    exact hg k' i
theorem z_tin {E : ET} {cc : ByteArray} {own : String} {S : List Kd} {G : Gw} {n fr lo : Nat} {σ : St} {pc : Nat} {L : List (Nat × Value)} {st : List Value} (X : Cx E cc own S G n fr lo) {a dflt lo1 hi off : Int} {offs : Array Int} {len tgt : Nat} (j : Nat) (hd : decode cc pc = .ok (.tableswitch dflt lo1 hi offs, len)) (ra : rg a) (ha : a = lo1 + j) (hj : offs[j]? = some off) (hh : lo1 + j ≤ hi) (ht : (pc : Int) + off = (tgt : Int)) (k : At E σ tgt L st) : At E σ pc L (.int (pI a) :: st) := by
  obtain ⟨p, l, e, R, s, m, args, below, meth, c, Q, S', G', n'⟩ := E
  obtain ⟨rfl, rfl, rfl, hx, hb, hml, hown, hts, hK, hD, hN, hSk, hR⟩ := X
  intro H locs ls hP hS hg hl
  subst hR
  exact lv_tableIn hx hb hd (by rw [pI_int ra]; omega) (by rw [pI_int ra]; omega) (by rw [pI_int ra, show (a - lo1).toNat = j by omega]; exact hj) ht (k H locs ls hP hS hg hl)
theorem z_tout {E : ET} {cc : ByteArray} {own : String} {S : List Kd} {G : Gw} {n fr lo : Nat} {σ : St} {pc : Nat} {L : List (Nat × Value)} {st : List Value} (X : Cx E cc own S G n fr lo) {a dflt lo1 hi : Int} {offs : Array Int} {len tgt : Nat} (hd : decode cc pc = .ok (.tableswitch dflt lo1 hi offs, len)) (ra : rg a) (ha : a < lo1 ∨ hi < a) (ht : (pc : Int) + dflt = (tgt : Int)) (k : At E σ tgt L st) : At E σ pc L (.int (pI a) :: st) := by
  obtain ⟨p, l, e, R, s, m, args, below, meth, c, Q, S', G', n'⟩ := E
  obtain ⟨rfl, rfl, rfl, hx, hb, hml, hown, hts, hK, hD, hN, hSk, hR⟩ := X
  intro H locs ls hP hS hg hl
  subst hR
  exact lv_tableOut hx hb hd (by rw [pI_int ra]; exact ha) ht (k H locs ls hP hS hg hl)
theorem z_lsw {E : ET} {cc : ByteArray} {own : String} {S : List Kd} {G : Gw} {n fr lo : Nat} {σ : St} {pc : Nat} {L : List (Nat × Value)} {st : List Value} (X : Cx E cc own S G n fr lo) {a dflt off : Int} {ps : Array (Int × Int)} {len tgt : Nat} (hd : decode cc pc = .ok (.lookupswitch dflt ps, len)) (ra : rg a) (hp : (ps.toList.zip (ps.toList.drop 1)).all (fun (a, next) => a.1 < next.1) = true) (ho : Op.lookupswitch.offset ps.toList dflt a = off) (ht : (pc : Int) + off = (tgt : Int)) (k : At E σ tgt L st) : At E σ pc L (.int (pI a) :: st) := by
  obtain ⟨p, l, e, R, s, m, args, below, meth, c, Q, S', G', n'⟩ := E
  obtain ⟨rfl, rfl, rfl, hx, hb, hml, hown, hts, hK, hD, hN, hSk, hR⟩ := X
  intro H locs ls hP hS hg hl
  subst hR
  exact lv_lookup hx hb hd hp (by rw [pI_int ra]; exact ho) ht (k H locs ls hP hS hg hl)
theorem z_cas {β : Type} {K : β → St → Prop} {c : Prop} [Decidable c] {h1 h2 : Rs β} {P : Prop} (o : Ok (if c then h1 else h2) K) (kt : c → Ok h1 K → P) (kf : ¬ c → Ok h2 K → P) : P := by
  rcases ok_if o with ⟨h, o⟩ | ⟨h, o⟩
  · exact kt h o
  · exact kf h o
theorem z_lb {β : Type} {K : β → St → Prop} {v : Int} {g : Int → Rs β} {P : Int → Prop} {R : Int → Prop} (o : Ok (lb v g) K) (hr : R v) (k : ∀ x, R x → Ok (g x) K → P x) : P v := k v hr o
