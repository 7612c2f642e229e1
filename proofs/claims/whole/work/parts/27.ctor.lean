/-! constructors -/
abbrev EC : Type := Program × Launch × Env × Room × State × MethodId × Array Value × List Frame × Method × Code × (State → Prop) × va_G × (Nat → ClassId) × ((Nat → Nat) × (Nat → Nat)) × Nat × (Nat → Prop) × List Kd × Nat × List Nat
def Gk (D : va_G) (cA : Nat → ClassId) (ks : (Nat → Nat) × (Nat → Nat)) (as : List Nat) : Gw := (D, cA, (fun k => as.getD k 0), ks)
def wfd (n : Nat) (f : Int → Int) (d : Kd) : Prop := match d with
  | .inl (t, _) => t = 3 → ∀ j : Nat, (f j).toNat < n
  | .inr (.inl (_, fs)) => ∀ c ∈ fs, c < n + 2
  | .inr (.inr ids) => ∀ q ∈ ids, q < n
def Wf (S : List Kd) (σ : St) : Prop := Rg S σ ∧ (∀ k d, S[k]? = some d → wfd S.length (σ k) d) ∧ ∀ k, S.length ≤ k → ∀ i, σ k i = 0
def AtK (E : EC) (d : Kd) (T : List Kd) (mo : List Nat) (σ : St) (cn sn : Nat) (pc : Nat) (L : List (Nat × Value)) (st : List Value) : Prop := match E with
  | (p, l, e, R, s, m, args, below, meth, c, Q, D, cA, ks, n, A, S0, o, as0) => ∀ (H : Heap) (locs : List Loc) (ls : Array Slot), va_P D vwCl (lay (S0.set o d ++ T) (Gk D cA ks (as0 ++ mo)) σ) H → va_D A (lay (S0.set o d ++ T) (Gk D cA ks (as0 ++ mo)) σ) → va_S A s.heap H locs → Wf (S0.set o d ++ T) σ → mo.length = T.length → lv_has ls n L → W p l e R s m args below meth c H locs cn sn Q (F0 m pc ls st)
def CxK (E : EC) (cc : ByteArray) (own : String) (S0 : List Kd) (o n0 : Nat) (as0 : List Nat) (n fr lo mc ms : Nat) : Prop := match E with
  | (p, l, e, R, s, m, args, below, meth, c, Q, D, cA, ks, n', A, S', o', as') => S' = S0 ∧ o' = o ∧ as' = as0 ∧ n' = n ∧ S0.length = n0 ∧ as0.length = n0 ∧ o < n0 ∧ p.tables.exec = Jvm.exec ∧ c.code = cc ∧ c.maxLocals = n ∧ s.vm.findClass own = some m.cls ∧ (∀ w ∈ tbl, w.before args s = true) ∧ va_K D vwCl (tyl (Gk D cA ks [])) s ∧ (∀ q, s.heap.size ≤ q → A q) ∧ Nws s ∧ Sk A (Gk D cA ks []) s ∧ va_AO "PorchHours$Houses" s ∧ R = { frames := fr, cells := mc, slots := ms, locals := lo } ∧ meth.name = "<init>"
def PwK (S : List Kd) (D : va_G) (cA : Nat → ClassId) (ks : (Nat → Nat) × (Nat → Nat)) (as : List Nat) (σ : St) (sz : Nat) (U : State) : Prop := U.heap.size = sz ∧ va_P D vwCl (lay S (Gk D cA ks as) σ) U.heap ∧ va_K D vwCl (tyl (Gk D cA ks [])) U ∧ va_D (fun _ => True) (lay S (Gk D cA ks as) σ) ∧ Wf S σ ∧ Nws U ∧ Sk (aA S (Gk D cA ks as) sz) (Gk D cA ks []) U ∧ va_AO "PorchHours$Houses" U ∧ as.length = S.length
def QK (S' : List Kd) (D : va_G) (cA : Nat → ClassId) (ks : (Nat → Nat) × (Nat → Nat)) (as : List Nat) (k : Nat) (σ1 : St) (A : Nat → Prop) : Array Value → State → Outcome → State → Prop := va_Qv (S := List Nat) (fun mo => mo.length = k) (fun mo t => va_P D vwCl (lay S' (Gk D cA ks (as ++ mo)) σ1) t.heap ∧ va_D A (lay S' (Gk D cA ks (as ++ mo)) σ1) ∧ Wf S' σ1) A
/-- a constructor's contract: k cells come behind those that are -/
def CtK (y : MethodName) (b : ByteArray) (n fr lo mc ms : Nat) (S : List Kd) (D : va_G) (cA : Nat → ClassId) (ks : (Nat → Nat) × (Nat → Nat)) (as : List Nat) (vs : List Value) (σ0 : St) (S' : List Kd) (k : Nat) (σ1 : St) : Prop :=
  ∀ (l : Launch) (sz : Nat), Met l y (wY y b n none) { frames := fr, cells := mc, slots := ms, locals := lo } (va_Pc vs (PwK S D cA ks as σ0 sz)) (QK S' D cA ks as k σ1 (aA S (Gk D cA ks as) sz)) mc ms (aA S (Gk D cA ks as) sz)
def RtK (E : EC) (T : List Kd) (d : Kd) (σ1 : St) (k : Nat) : Prop := match E with
  | (p, l, e, R, s, m, args, below, meth, c, Q, D, cA, ks, n', A, S', o', as') => Q = MQ below (QK (S'.set o' d ++ T) D cA ks as' k σ1 A) args s R.cells R.slots A ∧ A = aA S' (Gk D cA ks as') s.heap.size ∧ meth.sig.returnType = none ∧ meth.locks = false ∧ T.length = k
theorem CtK.of {y : MethodName} {b : ByteArray} {n fr lo mc ms : Nat} {S : List Kd} {D : va_G} {cA : Nat → ClassId} {ks : (Nat → Nat) × (Nat → Nat)} {as : List Nat} {vs : List Value} {σ0 : St} {k : Nat} {σ1 : St} {o : Nat} {d0 d : Kd} {T : List Kd} (n0 : Nat)
    (hy : plainName y.cls = true) (hin : y.name = "<init>") (hn : (lg_sl vs).length ≤ n) (hS0 : S.length = n0) (ho : S[o]? = some d0) (hk : T.length = k) (body : ∀ E : EC, CxK E b y.cls S o n0 as n fr lo mc ms → RtK E T d σ1 k → AtK E d0 [] [] σ0 0 0 0 (lv_args 0 vs) []) : CtK y b n fr lo mc ms S D cA ks as vs σ0 (S.set o d ++ T) k σ1 := by
  intro l sz
  refine Met.ofW (cc := b) (maxL := n) (ret := none) hy rfl ?_
  intro p e s m args below meth c s₁ B hml hv
  obtain ⟨rfl, rfl, hP, hK, hD0, hw, hN, hSk, hAO, hla⟩ := hv
  have hts := atoms_spec (ws := wY y b n none) B.pre
  have hD : va_D (aA S (Gk D cA ks as) s.heap.size) (lay S (Gk D cA ks as) σ0) := ⟨hD0.1, fun _ _ hk => lay_A hk⟩
  have hl := lv_entry vs (n := n) hn
  rw [lg_entry_eq]
  have hset : S.set o d0 ++ [] = S := by
    rw [List.append_nil]
    apply List.ext_getElem?
    intro j
    rw [List.getElem?_set]
    split
    · next h => subst h; rw [ho]; split; rfl; next h2 => exact absurd (List.getElem?_eq_some_iff.mp ho).1 h2
    · rfl
  have key := body (p, l, e, _, s, m, _, below, meth, c, _, D, cA, ks, n, aA S (Gk D cA ks as) s.heap.size, S, o, as) ⟨rfl, rfl, rfl, rfl, hS0, hla.trans hS0, by rw [← hS0]; exact (List.getElem?_eq_some_iff.mp ho).1, B.exec, B.bytes, hml, findClass_of_methodNamed B.named, fun w hw => hts w (List.mem_cons_of_mem _ hw), hK, fun q h => Or.inr h, hN, hSk, hAO, rfl, (name_of_methodNamed B.named B.method).1.trans hin⟩ ⟨rfl, rfl, B.returns, B.notSynchronized, hk⟩ s.heap [] _ (by rw [hset, List.append_nil]; exact hP) (by rw [hset, List.append_nil]; exact hD) va_S.rf (by rw [hset]; exact hw) rfl hl
  exact key
theorem k_iconst {E : EC} {cc : ByteArray} {own : String} {S0 : List Kd} {o n0 : Nat} {as0 : List Nat} {n fr lo mc ms : Nat} {d : Kd} {T : List Kd} {mo : List Nat} {σ : St} {cn sn : Nat} {pc : Nat} {L : List (Nat × Value)} {st : List Value} (X : CxK E cc own S0 o n0 as0 n fr lo mc ms) {a : Int} (hd : decode cc pc = .ok (.iconst a, 1))  (k : AtK E d T mo σ cn sn (pc + 1) L (.int (pI a) :: st)) : AtK E d T mo σ cn sn pc L st := by
  obtain ⟨p, l, e, R, s, m, args, below, meth, c, Q, D, cA, ks, n', A, S', o', as'⟩ := E
  obtain ⟨rfl, rfl, rfl, rfl, hS0, ha0, ho, hx, hb, hml, hown, hts, hK, hA, hN, hSk, hAO, hR, hin⟩ := X
  intro H locs ls hP hD hS hw hlm hl
  exact lv_iconst hx hb hd rfl (k H locs ls hP hD hS hw hlm hl)
theorem k_bipush {E : EC} {cc : ByteArray} {own : String} {S0 : List Kd} {o n0 : Nat} {as0 : List Nat} {n fr lo mc ms : Nat} {d : Kd} {T : List Kd} {mo : List Nat} {σ : St} {cn sn : Nat} {pc : Nat} {L : List (Nat × Value)} {st : List Value} (X : CxK E cc own S0 o n0 as0 n fr lo mc ms) {a : Int} (hd : decode cc pc = .ok (.bipush a, 2)) (ha : (Int8.ofInt a).toInt32 = pI a) (k : AtK E d T mo σ cn sn (pc + 2) L (.int (pI a) :: st)) : AtK E d T mo σ cn sn pc L st := by
  obtain ⟨p, l, e, R, s, m, args, below, meth, c, Q, D, cA, ks, n', A, S', o', as'⟩ := E
  obtain ⟨rfl, rfl, rfl, rfl, hS0, ha0, ho, hx, hb, hml, hown, hts, hK, hA, hN, hSk, hAO, hR, hin⟩ := X
  intro H locs ls hP hD hS hw hlm hl
  exact lv_bipush hx hb hd ha (k H locs ls hP hD hS hw hlm hl)
theorem k_sipush {E : EC} {cc : ByteArray} {own : String} {S0 : List Kd} {o n0 : Nat} {as0 : List Nat} {n fr lo mc ms : Nat} {d : Kd} {T : List Kd} {mo : List Nat} {σ : St} {cn sn : Nat} {pc : Nat} {L : List (Nat × Value)} {st : List Value} (X : CxK E cc own S0 o n0 as0 n fr lo mc ms) {a : Int} (hd : decode cc pc = .ok (.sipush a, 3)) (ha : (Int16.ofInt a).toInt32 = pI a) (k : AtK E d T mo σ cn sn (pc + 3) L (.int (pI a) :: st)) : AtK E d T mo σ cn sn pc L st := by
  obtain ⟨p, l, e, R, s, m, args, below, meth, c, Q, D, cA, ks, n', A, S', o', as'⟩ := E
  obtain ⟨rfl, rfl, rfl, rfl, hS0, ha0, ho, hx, hb, hml, hown, hts, hK, hA, hN, hSk, hAO, hR, hin⟩ := X
  intro H locs ls hP hD hS hw hlm hl
  exact lv_sipush hx hb hd ha (k H locs ls hP hD hS hw hlm hl)
theorem k_ldc {E : EC} {cc : ByteArray} {own : String} {S0 : List Kd} {o n0 : Nat} {as0 : List Nat} {n fr lo mc ms : Nat} {d : Kd} {T : List Kd} {mo : List Nat} {σ : St} {cn sn : Nat} {pc : Nat} {L : List (Nat × Value)} {st : List Value} (X : CxK E cc own S0 o n0 as0 n fr lo mc ms) {a : Int} {v : Int32} {idx : Nat} (hd : decode cc pc = .ok (.ldc idx, 2)) (hw1 : Cond.constant own idx v ∈ tbl) (ha : v = pI a) (k : AtK E d T mo σ cn sn (pc + 2) L (.int (pI a) :: st)) : AtK E d T mo σ cn sn pc L st := by
  obtain ⟨p, l, e, R, s, m, args, below, meth, c, Q, D, cA, ks, n', A, S', o', as'⟩ := E
  obtain ⟨rfl, rfl, rfl, rfl, hS0, ha0, ho, hx, hb, hml, hown, hts, hK, hA, hN, hSk, hAO, hR, hin⟩ := X
  intro H locs ls hP hD hS hw hlm hl
  subst ha
  exact lv_ldc hx hb hown (hts _ hw1) hd (k H locs ls hP hD hS hw hlm hl)
theorem k_iload_n {E : EC} {cc : ByteArray} {own : String} {S0 : List Kd} {o n0 : Nat} {as0 : List Nat} {n fr lo mc ms : Nat} {d : Kd} {T : List Kd} {mo : List Nat} {σ : St} {cn sn : Nat} {pc : Nat} {L : List (Nat × Value)} {st : List Value} (X : CxK E cc own S0 o n0 as0 n fr lo mc ms) {q : Fin 4} {x : Int32} (i : Nat) (hd : decode cc pc = .ok (.iload_n q, 1)) (h : L[i]? = some ((q : Nat), .int x)) (k : AtK E d T mo σ cn sn (pc + 1) L (.int x :: st)) : AtK E d T mo σ cn sn pc L st := by
  obtain ⟨p, l, e, R, s, m, args, below, meth, c, Q, D, cA, ks, n', A, S', o', as'⟩ := E
  obtain ⟨rfl, rfl, rfl, rfl, hS0, ha0, ho, hx, hb, hml, hown, hts, hK, hA, hN, hSk, hAO, hR, hin⟩ := X
  intro H locs ls hP hD hS hw hlm hl
  exact lv_iload_n hx hb hd rfl (lv_at hl i h) (k H locs ls hP hD hS hw hlm hl)
theorem k_iload {E : EC} {cc : ByteArray} {own : String} {S0 : List Kd} {o n0 : Nat} {as0 : List Nat} {n fr lo mc ms : Nat} {d : Kd} {T : List Kd} {mo : List Nat} {σ : St} {cn sn : Nat} {pc : Nat} {L : List (Nat × Value)} {st : List Value} (X : CxK E cc own S0 o n0 as0 n fr lo mc ms) {q : Nat} {x : Int32} (i : Nat) (hd : decode cc pc = .ok (.iload q, 2)) (h : L[i]? = some (q, .int x)) (k : AtK E d T mo σ cn sn (pc + 2) L (.int x :: st)) : AtK E d T mo σ cn sn pc L st := by
  obtain ⟨p, l, e, R, s, m, args, below, meth, c, Q, D, cA, ks, n', A, S', o', as'⟩ := E
  obtain ⟨rfl, rfl, rfl, rfl, hS0, ha0, ho, hx, hb, hml, hown, hts, hK, hA, hN, hSk, hAO, hR, hin⟩ := X
  intro H locs ls hP hD hS hw hlm hl
  exact lv_iload hx hb hd (lv_at hl i h) (k H locs ls hP hD hS hw hlm hl)
theorem k_aload_n {E : EC} {cc : ByteArray} {own : String} {S0 : List Kd} {o n0 : Nat} {as0 : List Nat} {n fr lo mc ms : Nat} {d : Kd} {T : List Kd} {mo : List Nat} {σ : St} {cn sn : Nat} {pc : Nat} {L : List (Nat × Value)} {st : List Value} (X : CxK E cc own S0 o n0 as0 n fr lo mc ms) {q : Fin 4} {x : Nat} (i : Nat) (hd : decode cc pc = .ok (.aload_n q, 1)) (h : L[i]? = some ((q : Nat), .ref x)) (k : AtK E d T mo σ cn sn (pc + 1) L (.ref x :: st)) : AtK E d T mo σ cn sn pc L st := by
  obtain ⟨p, l, e, R, s, m, args, below, meth, c, Q, D, cA, ks, n', A, S', o', as'⟩ := E
  obtain ⟨rfl, rfl, rfl, rfl, hS0, ha0, ho, hx, hb, hml, hown, hts, hK, hA, hN, hSk, hAO, hR, hin⟩ := X
  intro H locs ls hP hD hS hw hlm hl
  exact lv_aload_n hx hb hd rfl (lv_at hl i h) (k H locs ls hP hD hS hw hlm hl)
theorem k_aload {E : EC} {cc : ByteArray} {own : String} {S0 : List Kd} {o n0 : Nat} {as0 : List Nat} {n fr lo mc ms : Nat} {d : Kd} {T : List Kd} {mo : List Nat} {σ : St} {cn sn : Nat} {pc : Nat} {L : List (Nat × Value)} {st : List Value} (X : CxK E cc own S0 o n0 as0 n fr lo mc ms) {q : Nat} {x : Nat} (i : Nat) (hd : decode cc pc = .ok (.aload q, 2)) (h : L[i]? = some (q, .ref x)) (k : AtK E d T mo σ cn sn (pc + 2) L (.ref x :: st)) : AtK E d T mo σ cn sn pc L st := by
  obtain ⟨p, l, e, R, s, m, args, below, meth, c, Q, D, cA, ks, n', A, S', o', as'⟩ := E
  obtain ⟨rfl, rfl, rfl, rfl, hS0, ha0, ho, hx, hb, hml, hown, hts, hK, hA, hN, hSk, hAO, hR, hin⟩ := X
  intro H locs ls hP hD hS hw hlm hl
  exact lv_aload hx hb hd (lv_at hl i h) (k H locs ls hP hD hS hw hlm hl)
theorem k_istore_n {E : EC} {cc : ByteArray} {own : String} {S0 : List Kd} {o n0 : Nat} {as0 : List Nat} {n fr lo mc ms : Nat} {d : Kd} {T : List Kd} {mo : List Nat} {σ : St} {cn sn : Nat} {pc : Nat} {L : List (Nat × Value)} {st : List Value} (X : CxK E cc own S0 o n0 as0 n fr lo mc ms) {q : Fin 4} {i : Nat} {x : Int32} {L1 : List (Nat × Value)} (hd : decode cc pc = .ok (.istore_n q, 1)) (hi : (q : Nat) = i) (hn : i < n) (h : (i, Value.int x) :: L.filter (fun q => !(q.1 == i) && !(q.1 + 1 == i && q.2.category == 2)) = L1) (k : AtK E d T mo σ cn sn (pc + 1) L1 st) : AtK E d T mo σ cn sn pc L (.int x :: st) := by
  obtain ⟨p, l, e, R, s, m, args, below, meth, c, Q, D, cA, ks, n', A, S', o', as'⟩ := E
  obtain ⟨rfl, rfl, rfl, rfl, hS0, ha0, ho, hx, hb, hml, hown, hts, hK, hA, hN, hSk, hAO, hR, hin⟩ := X
  intro H locs ls hP hD hS hw hlm hl
  exact lv_istore_n hx hb hd hi hl hn h (fun ls1 hl1 => k H locs ls1 hP hD hS hw hlm hl1)
theorem k_iinc {E : EC} {cc : ByteArray} {own : String} {S0 : List Kd} {o n0 : Nat} {as0 : List Nat} {n fr lo mc ms : Nat} {d : Kd} {T : List Kd} {mo : List Nat} {σ : St} {cn sn : Nat} {pc : Nat} {L : List (Nat × Value)} {st : List Value} (X : CxK E cc own S0 o n0 as0 n fr lo mc ms) {i : Nat} {dd a b : Int} {L1 : List (Nat × Value)} (j : Nat) (hd : decode cc pc = .ok (.iinc i dd, 3)) (hj : L[j]? = some (i, .int (pI a))) (hab : w32 (a + dd) = b) (hn : i < n) (h : (i, Value.int (pI b)) :: L.filter (fun q => !(q.1 == i) && !(q.1 + 1 == i && q.2.category == 2)) = L1) (k : AtK E d T mo σ cn sn (pc + 3) L1 st) : AtK E d T mo σ cn sn pc L st := by
  obtain ⟨p, l, e, R, s, m, args, below, meth, c, Q, D, cA, ks, n', A, S', o', as'⟩ := E
  obtain ⟨rfl, rfl, rfl, rfl, hS0, ha0, ho, hx, hb, hml, hown, hts, hK, hA, hN, hSk, hAO, hR, hin⟩ := X
  intro H locs ls hP hD hS hw hlm hl
  subst hab
  exact lv_iinc hx hb hd hl hj (by rw [← pI_add]; rfl) hn h (fun ls1 hl1 => k H locs ls1 hP hD hS hw hlm hl1)
theorem k_imul {E : EC} {cc : ByteArray} {own : String} {S0 : List Kd} {o n0 : Nat} {as0 : List Nat} {n fr lo mc ms : Nat} {d : Kd} {T : List Kd} {mo : List Nat} {σ : St} {cn sn : Nat} {pc : Nat} {L : List (Nat × Value)} {st : List Value} (X : CxK E cc own S0 o n0 as0 n fr lo mc ms) {a b r : Int} (hd : decode cc pc = .ok (.imul, 1)) (hr : w32 (a * b) = r) (k : AtK E d T mo σ cn sn (pc + 1) L (.int (pI r) :: st)) : AtK E d T mo σ cn sn pc L (.int (pI b) :: .int (pI a) :: st) := by
  obtain ⟨p, l, e, R, s, m, args, below, meth, c, Q, D, cA, ks, n', A, S', o', as'⟩ := E
  obtain ⟨rfl, rfl, rfl, rfl, hS0, ha0, ho, hx, hb, hml, hown, hts, hK, hA, hN, hSk, hAO, hR, hin⟩ := X
  intro H locs ls hP hD hS hw hlm hl
  subst hr
  rw [← pI_mul] at k
  exact lv_imul hx hb hd (k H locs ls hP hD hS hw hlm hl)
theorem k_dup {E : EC} {cc : ByteArray} {own : String} {S0 : List Kd} {o n0 : Nat} {as0 : List Nat} {n fr lo mc ms : Nat} {d : Kd} {T : List Kd} {mo : List Nat} {σ : St} {cn sn : Nat} {pc : Nat} {L : List (Nat × Value)} {st : List Value} (X : CxK E cc own S0 o n0 as0 n fr lo mc ms) {v : Value} (hd : decode cc pc = .ok (.dup, 1)) (hv : v.category = 1) (k : AtK E d T mo σ cn sn (pc + 1) L (v :: v :: st)) : AtK E d T mo σ cn sn pc L (v :: st) := by
  obtain ⟨p, l, e, R, s, m, args, below, meth, c, Q, D, cA, ks, n', A, S', o', as'⟩ := E
  obtain ⟨rfl, rfl, rfl, rfl, hS0, ha0, ho, hx, hb, hml, hown, hts, hK, hA, hN, hSk, hAO, hR, hin⟩ := X
  intro H locs ls hP hD hS hw hlm hl
  exact lv_dup hx hb hd hv (k H locs ls hP hD hS hw hlm hl)
theorem k_pop {E : EC} {cc : ByteArray} {own : String} {S0 : List Kd} {o n0 : Nat} {as0 : List Nat} {n fr lo mc ms : Nat} {d : Kd} {T : List Kd} {mo : List Nat} {σ : St} {cn sn : Nat} {pc : Nat} {L : List (Nat × Value)} {st : List Value} (X : CxK E cc own S0 o n0 as0 n fr lo mc ms) {v : Value} (hd : decode cc pc = .ok (.pop, 1)) (hv : v.category = 1) (k : AtK E d T mo σ cn sn (pc + 1) L st) : AtK E d T mo σ cn sn pc L (v :: st) := by
  obtain ⟨p, l, e, R, s, m, args, below, meth, c, Q, D, cA, ks, n', A, S', o', as'⟩ := E
  obtain ⟨rfl, rfl, rfl, rfl, hS0, ha0, ho, hx, hb, hml, hown, hts, hK, hA, hN, hSk, hAO, hR, hin⟩ := X
  intro H locs ls hP hD hS hw hlm hl
  exact lv_pop hx hb hd hv (k H locs ls hP hD hS hw hlm hl)
theorem k_goto {E : EC} {cc : ByteArray} {own : String} {S0 : List Kd} {o n0 : Nat} {as0 : List Nat} {n fr lo mc ms : Nat} {d : Kd} {T : List Kd} {mo : List Nat} {σ : St} {cn sn : Nat} {pc : Nat} {L : List (Nat × Value)} {st : List Value} (X : CxK E cc own S0 o n0 as0 n fr lo mc ms) {off : Int} {tgt : Nat} (hd : decode cc pc = .ok (.goto off, 3)) (ht : (pc : Int) + off = (tgt : Int)) (k : AtK E d T mo σ cn sn tgt L st) : AtK E d T mo σ cn sn pc L st := by
  obtain ⟨p, l, e, R, s, m, args, below, meth, c, Q, D, cA, ks, n', A, S', o', as'⟩ := E
  obtain ⟨rfl, rfl, rfl, rfl, hS0, ha0, ho, hx, hb, hml, hown, hts, hK, hA, hN, hSk, hAO, hR, hin⟩ := X
  intro H locs ls hP hD hS hw hlm hl
  exact lv_goto hx hb hd ht (k H locs ls hP hD hS hw hlm hl)
theorem k_ge_f {E : EC} {cc : ByteArray} {own : String} {S0 : List Kd} {o n0 : Nat} {as0 : List Nat} {n fr lo mc ms : Nat} {d : Kd} {T : List Kd} {mo : List Nat} {σ : St} {cn sn : Nat} {pc : Nat} {L : List (Nat × Value)} {st : List Value} (X : CxK E cc own S0 o n0 as0 n fr lo mc ms) {a b : Int} {off : Int} {tgt : Nat} (hd : decode cc pc = .ok (.if_icmp .ge off, 3)) (ht : (pc : Int) + off = (tgt : Int)) (ra : rg a) (rb : rg b) (h : a < b) (k : AtK E d T mo σ cn sn (pc + 3) L st) : AtK E d T mo σ cn sn pc L (.int (pI b) :: .int (pI a) :: st) := by
  obtain ⟨p, l, e, R, s, m, args, below, meth, c, Q, D, cA, ks, n', A, S', o', as'⟩ := E
  obtain ⟨rfl, rfl, rfl, rfl, hS0, ha0, ho, hx, hb, hml, hown, hts, hK, hA, hN, hSk, hAO, hR, hin⟩ := X
  intro H locs ls hP hD hS hw hlm hl
  exact lv_icmp_ge hx hb hd ht (fun c => by rw [pI_le rb ra] at c; omega) (fun _ => (k H locs ls hP hD hS hw hlm hl))
theorem k_ge_t {E : EC} {cc : ByteArray} {own : String} {S0 : List Kd} {o n0 : Nat} {as0 : List Nat} {n fr lo mc ms : Nat} {d : Kd} {T : List Kd} {mo : List Nat} {σ : St} {cn sn : Nat} {pc : Nat} {L : List (Nat × Value)} {st : List Value} (X : CxK E cc own S0 o n0 as0 n fr lo mc ms) {a b : Int} {off : Int} {tgt : Nat} (hd : decode cc pc = .ok (.if_icmp .ge off, 3)) (ht : (pc : Int) + off = (tgt : Int)) (ra : rg a) (rb : rg b) (h : b ≤ a) (k : AtK E d T mo σ cn sn tgt L st) : AtK E d T mo σ cn sn pc L (.int (pI b) :: .int (pI a) :: st) := by
  obtain ⟨p, l, e, R, s, m, args, below, meth, c, Q, D, cA, ks, n', A, S', o', as'⟩ := E
  obtain ⟨rfl, rfl, rfl, rfl, hS0, ha0, ho, hx, hb, hml, hown, hts, hK, hA, hN, hSk, hAO, hR, hin⟩ := X
  intro H locs ls hP hD hS hw hlm hl
  exact lv_icmp_ge hx hb hd ht (fun _ => (k H locs ls hP hD hS hw hlm hl)) (fun c => by rw [pI_le rb ra] at c; omega)
theorem k_obj {E : EC} {cc : ByteArray} {own : String} {S0 : List Kd} {o n0 : Nat} {as0 : List Nat} {n fr lo mc ms : Nat} {d : Kd} {T : List Kd} {mo : List Nat} {σ : St} {cn sn : Nat} {pc : Nat} {L : List (Nat × Value)} (X : CxK E cc own S0 o n0 as0 n fr lo mc ms) {idx a : Nat} (hd : decode cc pc = .ok (.invokespecial idx, 3)) (h1 : Cond.methodLink own idx objectInit ∈ tbl) (h2 : Cond.instanceMethod objectInit ∈ tbl) (h3 : Cond.code objectInit ⟨#[0xb1]⟩ 1 none ∈ tbl) (hfr : 1 ≤ fr) (hlo : 20 ≤ lo) (k : AtK E d T mo σ cn sn (pc + 3) L []) : AtK E d T mo σ cn sn pc L [.ref a] := by
  obtain ⟨p, l, e, R, s, m, args, below, meth, c, Q, D, cA, ks, n', A, S', o', as'⟩ := E
  obtain ⟨rfl, rfl, rfl, rfl, hS0, ha0, ho, hx, hb, hml, hown, hts, hK, hA, hN, hSk, hAO, hR, hin⟩ := X
  intro H locs ls hP hD hS hw hlm hl
  subst hR
  refine W.objInit hx hb hown (hts _ h1) (hts _ h2) (hts _ h3) rfl (by rw [hml]; exact hl.1) rfl hd hfr (by show 2 * 0 + 0 + 12 ≤ lo; omega) ?_
  exact W.eq (g2 := F0 m (pc + 3) ls []) rfl (k H locs ls hP hD hS hw hlm hl)
theorem getD_app {as mo : List Nat} {k : Nat} (h : k < as.length) : (as ++ mo).getD k 0 = as.getD k 0 := by
  simp [List.getD, List.getElem?_append_left h]
theorem cE_ext {D : va_G} {cA : Nat → ClassId} {ks : (Nat → Nat) × (Nat → Nat)} {as mo : List Nat} {n : Nat} {f : Int → Int} {d : Kd} (hw : wfd n f d) (h : as.length = n) : cE (Gk D cA ks (as ++ mo)) f d = cE (Gk D cA ks as) f d := by
  rcases d with ⟨t, n'⟩ | ⟨ci, fs⟩ | ids
  · unfold cE
    by_cases h2 : t = 2
    · simp only [if_pos h2]; rfl
    · simp only [if_neg h2]
      by_cases h3 : t = 3
      · simp only [if_pos h3]
        show Sum.inl (cA 3, n', Sum.inr (Sum.inr (Sum.inr (Sum.inr fun j : Nat => if f j = 0 then none else some ((as ++ mo).getD (f j).toNat 0))))) = Sum.inl (cA 3, n', Sum.inr (Sum.inr (Sum.inr (Sum.inr fun j : Nat => if f j = 0 then none else some (as.getD (f j).toNat 0)))))
        congr 6
        congr 1
        funext j
        rw [getD_app (by rw [h]; exact hw h3 j)]
      · simp only [if_neg h3]; rfl
  · show Sum.inr (ci, _) = Sum.inr (ci, _)
    congr 2
    apply List.ext_getElem?
    intro j
    simp only [List.getElem?_mapIdx]
    cases hc : fs[j]? with
    | none => rfl
    | some c =>
      simp only [Option.map_some]
      congr 1
      match c, hc with
      | 0, _ => rfl
      | 1, _ => rfl
      | q + 2, hc =>
        have := hw (q + 2) (List.mem_of_getElem? hc)
        show Value.ref ((as ++ mo).getD q 0) = Value.ref (as.getD q 0)
        rw [getD_app (by omega)]
  · show Sum.inl (cA 3, ids.length, Sum.inr (Sum.inr (Sum.inr (Sum.inr fun j : Nat => (ids[j]?).map fun k => (as ++ mo).getD k 0)))) = Sum.inl (cA 3, ids.length, Sum.inr (Sum.inr (Sum.inr (Sum.inr fun j : Nat => (ids[j]?).map fun k => as.getD k 0))))
    congr 6
    congr 1
    funext j
    cases hc : ids[j]? with
    | none => rfl
    | some q =>
      have := hw q (List.mem_of_getElem? hc)
      simp only [Option.map_some]
      rw [getD_app (by omega)]
theorem lay_ext {D : va_G} {cA : Nat → ClassId} {ks : (Nat → Nat) × (Nat → Nat)} {as mo : List Nat} {S : List Kd} {σ : St} (hw : ∀ k d, S[k]? = some d → wfd S.length (σ k) d) (h : as.length = S.length) : lay S (Gk D cA ks (as ++ mo)) σ = lay S (Gk D cA ks as) σ := by
  apply List.ext_getElem?
  intro k
  simp only [lay, List.getElem?_mapIdx]
  cases hk : S[k]? with
  | none => rfl
  | some d =>
    simp only [Option.map_some]
    rw [cE_ext (hw k d hk) h]
    congr 2
    exact getD_app (by rw [h]; exact (List.getElem?_eq_some_iff.mp hk).1)
theorem lay_app {D : va_G} {cA : Nat → ClassId} {ks : (Nat → Nat) × (Nat → Nat)} {as : List Nat} {q : Nat} {S : List Kd} {d : Kd} {σ : St} (hw : ∀ k d, S[k]? = some d → wfd S.length (σ k) d) (h : as.length = S.length) : lay (S ++ [d]) (Gk D cA ks (as ++ [q])) σ = lay S (Gk D cA ks as) σ ++ [(q, cE (Gk D cA ks (as ++ [q])) (σ S.length) d)] := by
  rw [← lay_ext (mo := [q]) hw h]
  have hq : (Gk D cA ks (as ++ [q])).2.2.1 S.length = q := by
    show (as ++ [q]).getD S.length 0 = q
    rw [← h]
    simp [List.getD]
  unfold lay
  rw [List.mapIdx_append]
  simp [hq]
theorem kl_app {S : List Kd} {d : Kd} {k : Nat} (h : k < S.length) : kl (S ++ [d]) k = kl S k := by
  unfold kl
  rw [List.getElem?_append_left h]
theorem wfd_mono {n m : Nat} {f : Int → Int} {d : Kd} (h : n ≤ m) (hw : wfd n f d) : wfd m f d := by
  rcases d with ⟨t, n'⟩ | ⟨ci, fs⟩ | ids
  · exact fun h3 j => Nat.lt_of_lt_of_le (hw h3 j) h
  · exact fun c hc => Nat.lt_of_lt_of_le (hw c hc) (by omega)
  · exact fun q hq => Nat.lt_of_lt_of_le (hw q hq) h
theorem Wf.app {S : List Kd} {σ : St} {d : Kd} (h : Wf S σ) (hd : wfd S.length (fun _ => 0) d) : Wf (S ++ [d]) σ := by
  obtain ⟨h1, h2, h3⟩ := h
  have hz : σ S.length = fun _ => 0 := funext fun i => h3 S.length (Nat.le_refl _) i
  refine ⟨fun k i => ?_, fun k dd hk => ?_, fun k hk i => ?_⟩
  · by_cases hk : k < S.length
    · rw [kl_app hk]; exact h1 k i
    · rw [h3 k (by omega) i]
      split
      · unfold rl; omega
      · unfold rg; omega
  · rw [List.length_append]
    by_cases hk' : k < S.length
    · rw [List.getElem?_append_left hk'] at hk
      exact wfd_mono (by omega) (h2 k dd hk)
    · have hl := (List.getElem?_eq_some_iff.mp hk).1
      rw [List.length_append] at hl
      have e : k = S.length := by simp at hl; omega
      subst e
      rw [List.getElem?_append_right (Nat.le_refl _)] at hk
      simp at hk
      subst hk
      rw [hz]
      exact wfd_mono (by omega) hd
  · rw [List.length_append] at hk
    exact h3 k (by omega) i
theorem Wf.up {S : List Kd} {σ : St} {k : Nat} {i v : Int} {d : Kd} (h : Wf S σ) (hk : S[k]? = some d) (hv : if kl S k = true then rl v else rg v) (hd : wfd S.length (up σ k i v k) d) : Wf S (up σ k i v) := by
  obtain ⟨h1, h2, h3⟩ := h
  refine ⟨h1.up hv, fun k' dd hk' => ?_, fun k' hk' j => ?_⟩
  · by_cases e : k' = k
    · subst e
      rw [hk] at hk'
      cases hk'
      exact hd
    · rw [up_ne e]
      exact h2 k' dd hk'
  · rw [up_ne (by have := (List.getElem?_eq_some_iff.mp hk).1; omega)]
    exact h3 k' hk' j
theorem Wf.setd {S : List Kd} {σ : St} {k : Nat} {d d' : Kd} (h : Wf S σ) (hk : S[k]? = some d) (hkl : kl (S.set k d') k = kl S k) (hd : wfd S.length (σ k) d') : Wf (S.set k d') σ := by
  obtain ⟨h1, h2, h3⟩ := h
  refine ⟨fun k' i => ?_, fun k' dd hk' => ?_, fun k' hk' j => ?_⟩
  · by_cases e : k' = k
    · subst e; rw [hkl]; exact h1 k' i
    · have : kl (S.set k d') k' = kl S k' := by
        unfold kl
        rw [List.getElem?_set, if_neg (fun q => e q.symm)]
      rw [this]; exact h1 k' i
  · rw [List.length_set]
    rw [List.getElem?_set] at hk'
    by_cases e : k = k'
    · subst e
      rw [if_pos rfl, if_pos (List.getElem?_eq_some_iff.mp hk).1] at hk'
      cases hk'
      exact hd
    · rw [if_neg e] at hk'
      exact h2 k' dd hk'
  · rw [List.length_set] at hk'
    exact h3 k' hk' j
theorem lay_setd {S : List Kd} {G : Gw} {σ σ' : St} {k : Nat} {d' : Kd} {x : va_E} (hk : k < S.length) (hx : x = cE G (σ' k) d') (hs : ∀ k', k' ≠ k → σ' k' = σ k') : (lay S G σ).set k (G.2.2.1 k, x) = lay (S.set k d') G σ' := by
  apply List.ext_getElem?
  intro j
  rw [List.getElem?_set]
  simp only [lay, List.getElem?_mapIdx, List.length_mapIdx]
  rw [List.getElem?_set]
  by_cases hj : k = j
  · subst hj
    rw [if_pos rfl, if_pos hk, if_pos rfl, if_pos hk, hx]
    rfl
  · rw [if_neg hj, if_neg hj, hs j (fun q => hj q.symm)]
theorem set_app {S0 T : List Kd} {o : Nat} {d d' : Kd} (h : o < S0.length) : (S0.set o d ++ T).set o d' = S0.set o d' ++ T := by
  rw [List.set_append_left _ _ (by rw [List.length_set]; exact h), List.set_set]
theorem at_this {S0 T : List Kd} {o : Nat} {d : Kd} (h : o < S0.length) : (S0.set o d ++ T)[o]? = some d := by
  rw [List.getElem?_append_left (by rw [List.length_set]; exact h)]
  simp [h]
theorem at_more {S0 T : List Kd} {o n0 j : Nat} {d : Kd} (h : S0.length = n0) : (S0.set o d ++ T)[n0 + j]? = T[j]? := by
  rw [List.getElem?_append_right (by rw [List.length_set]; omega), List.length_set, h]
  congr 1
  omega
theorem as_more {as0 mo : List Nat} {n0 j : Nat} (h : as0.length = n0) : (as0 ++ mo)[n0 + j]? = mo[j]? := by
  rw [List.getElem?_append_right (by omega), h]
  congr 1
  omega
theorem Gk_at {D : va_G} {cA : Nat → ClassId} {ks : (Nat → Nat) × (Nat → Nat)} {as : List Nat} {k a : Nat} (h : as[k]? = some a) : (Gk D cA ks as).2.2.1 k = a := by
  show as.getD k 0 = a
  simp [List.getD, h]
theorem set_fv {G : Gw} {f : Int → Int} {fs : List Nat} {j q : Nat} (hj : j < fs.length) : (fs.mapIdx (fv G f)).set j (.ref (G.2.2.1 q)) = (fs.set j (q + 2)).mapIdx (fv G f) := by
  apply List.ext_getElem?
  intro i
  rw [List.getElem?_set]
  simp only [List.getElem?_mapIdx, List.length_mapIdx]
  rw [List.getElem?_set]
  by_cases hi : j = i
  · subst hi
    rw [if_pos rfl, if_pos hj, if_pos rfl, if_pos hj]
    rfl
  · rw [if_neg hi, if_neg hi]
theorem k_new {E : EC} {cc : ByteArray} {own : String} {S0 : List Kd} {o n0 : Nat} {as0 : List Nat} {n fr lo mc ms : Nat} {d : Kd} {T : List Kd} {mo : List Nat} {σ : St} {cn sn : Nat} {pc : Nat} {L : List (Nat × Value)} {st : List Value} (X : CxK E cc own S0 o n0 as0 n fr lo mc ms) (ix : Nat) (hix : n0 + T.length = ix) {idx ci NF : Nat} {C : String} {TF : u_T} {ty : Nat → FieldType} {fs : List Nat} (hd : decode cc pc = .ok (.new idx, 3)) (hc : vwCl[ci]? = some (C, TF, NF)) (hu : ∀ w ∈ u_ws C TF NF, w ∈ tbl) (hty : ∀ k, k < NF → parseFieldDescriptor (TF k).2.2.1 = some (ty k)) (h1 : Cond.classLink own idx C ∈ tbl) (h2 : Cond.instantiable C NF ∈ tbl) (h3 : Cond.initialized C ∈ tbl) (hf : ∀ j, j < NF → defaultValue (ty j) = vp_V (fs.map fun c => if c = 0 then Value.int 0 else Value.null) j) (hfs : fs.all (fun c => decide (c < 2)) = true) (hcn : cn + 1 ≤ mc) (hsn : sn + NF ≤ ms) (kk : ∀ q, (as0 ++ (mo ++ [q]))[ix]? = some q → AtK E d (T ++ [.inr (.inl (ci, fs))]) (mo ++ [q]) σ (cn + 1) (sn + NF) (pc + 3) L (.ref q :: st)) : AtK E d T mo σ cn sn pc L st := by
  obtain ⟨p, l, e, R, s, m, args, below, meth, c, Q, D, cA, ks, n', A, S', o', as'⟩ := E
  obtain ⟨rfl, rfl, rfl, rfl, hS0, ha0, ho, hx, hb, hml, hown, hts, hK, hA, hN, hSk, hAO, hR, hin⟩ := X
  intro H locs ls hP hD hS hw hlm hl
  subst hR
  refine va_new (fs := fs.map fun c => if c = 0 then Value.int 0 else Value.null) hx hb hts hu ty hty hown (hts _ h1) (hts _ h2) (hts _ h3) hK hP hD hS hA hc hf hcn hsn hd (fun q H1 hP1 hD1 hS1 => ?_)
  have hl2 : (as' ++ mo).length = (S'.set o' d ++ T).length := by rw [List.length_append, List.length_append, List.length_set, ha0, hS0, hlm]
  have hz : σ (S'.set o' d ++ T).length = fun _ => 0 := funext fun i => hw.2.2 _ (Nat.le_refl _) i
  have e : lay (S'.set o' d ++ (T ++ [.inr (.inl (ci, fs))])) (Gk D cA ks (as' ++ (mo ++ [q]))) σ = lay (S'.set o' d ++ T) (Gk D cA ks (as' ++ mo)) σ ++ [(q, .inr (ci, fs.map fun c => if c = 0 then Value.int 0 else Value.null))] := by
    rw [← List.append_assoc, ← List.append_assoc, lay_app hw.2.1 hl2, hz]
    congr 3
    show Sum.inr (ci, _) = Sum.inr (ci, _)
    congr 2
    apply List.ext_getElem?
    intro j
    simp only [List.getElem?_mapIdx, List.getElem?_map]
    cases hc : fs[j]? with
    | none => rfl
    | some c =>
      have hc2 : c < 2 := by
        have := List.all_eq_true.mp hfs c (List.mem_of_getElem? hc)
        simpa using this
      match c, hc2 with
      | 0, _ => rfl
      | 1, _ => rfl
  refine kk q (by rw [← hix, as_more ha0, ← hlm]; simp) H1 _ ls (by rw [e]; exact hP1) (by rw [e]; exact hD1) hS1 ?_ (by simp [hlm]) hl
  rw [← List.append_assoc]
  refine hw.app (fun c hc => ?_)
  have := List.all_eq_true.mp hfs c hc
  have : c < 2 := by simpa using this
  omega
theorem k_nai {E : EC} {cc : ByteArray} {own : String} {S0 : List Kd} {o n0 : Nat} {as0 : List Nat} {n fr lo mc ms : Nat} {d : Kd} {T : List Kd} {mo : List Nat} {σ : St} {cn sn : Nat} {pc : Nat} {L : List (Nat × Value)} {st : List Value} (X : CxK E cc own S0 o n0 as0 n fr lo mc ms) (ix : Nat) (hix : n0 + T.length = ix) {a : Int} {len : Nat} (hd : decode cc pc = .ok (.newarray .int, 2)) (h1 : Cond.arrayClass .int ∈ tbl) (ra : rg a) (ha : a = (len : Int)) (hb2 : len ≤ 60000) (hcn : cn + 1 ≤ mc) (hsn : sn + len ≤ ms) (kk : ∀ q, (as0 ++ (mo ++ [q]))[ix]? = some q → AtK E d (T ++ [.inl (0, len)]) (mo ++ [q]) σ (cn + 1) (sn + len) (pc + 2) L (.ref q :: st)) : AtK E d T mo σ cn sn pc L (.int (pI a) :: st) := by
  obtain ⟨p, l, e, R, s, m, args, below, meth, c, Q, D, cA, ks, n', A, S', o', as'⟩ := E
  obtain ⟨rfl, rfl, rfl, rfl, hS0, ha0, ho, hx, hb, hml, hown, hts, hK, hA, hN, hSk, hAO, hR, hin⟩ := X
  intro H locs ls hP hD hS hw hlm hl
  subst hR
  refine va_newa (atype := .int) (N' := len) (a0 := (len, .inl fun _ => 0)) hx hb (ty := .int) (hts _ h1) rfl hK hP hD hS hA (fun cA => rfl) (fun q => by rw [pI_ltz ra] at q; omega) (by rw [clamp_pI ra]; omega) (by show len * 4 ≤ 536870912; omega) hcn hsn hd (fun q cA' H1 hK1 hP1 hD1 hS1 => ?_)
  have hc1 : cA' = cA 0 := by
    have g1 := (hK.2 0 _ rfl).2
    have g2 := (hK1.2 4 _ rfl).2
    exact Option.some.inj (g2.symm.trans g1)
  subst hc1
  have hl2 : (as' ++ mo).length = (S'.set o' d ++ T).length := by rw [List.length_append, List.length_append, List.length_set, ha0, hS0, hlm]
  have hz : σ (S'.set o' d ++ T).length = fun _ => 0 := funext fun i => hw.2.2 _ (Nat.le_refl _) i
  have e : lay (S'.set o' d ++ (T ++ [.inl (0, len)])) (Gk D cA ks (as' ++ (mo ++ [q]))) σ = lay (S'.set o' d ++ T) (Gk D cA ks (as' ++ mo)) σ ++ [(q, .inl (cA 0, (len, .inl fun _ => 0)))] := by
    rw [← List.append_assoc, ← List.append_assoc, lay_app hw.2.1 hl2, hz]
    rfl
  refine kk q (by rw [← hix, as_more ha0, ← hlm]; simp) H1 _ ls (by rw [e]; exact hP1) (by rw [e]; exact hD1) hS1 ?_ (by simp [hlm]) hl
  rw [← List.append_assoc]
  exact hw.app (fun h => by cases h)
theorem k_nab {E : EC} {cc : ByteArray} {own : String} {S0 : List Kd} {o n0 : Nat} {as0 : List Nat} {n fr lo mc ms : Nat} {d : Kd} {T : List Kd} {mo : List Nat} {σ : St} {cn sn : Nat} {pc : Nat} {L : List (Nat × Value)} {st : List Value} (X : CxK E cc own S0 o n0 as0 n fr lo mc ms) (ix : Nat) (hix : n0 + T.length = ix) {a : Int} {len : Nat} (hd : decode cc pc = .ok (.newarray .byte, 2)) (h1 : Cond.arrayClass .byte ∈ tbl) (ra : rg a) (ha : a = (len : Int)) (hb2 : len ≤ 60000) (hcn : cn + 1 ≤ mc) (hsn : sn + len ≤ ms) (kk : ∀ q, (as0 ++ (mo ++ [q]))[ix]? = some q → AtK E d (T ++ [.inl (1, len)]) (mo ++ [q]) σ (cn + 1) (sn + len) (pc + 2) L (.ref q :: st)) : AtK E d T mo σ cn sn pc L (.int (pI a) :: st) := by
  obtain ⟨p, l, e, R, s, m, args, below, meth, c, Q, D, cA, ks, n', A, S', o', as'⟩ := E
  obtain ⟨rfl, rfl, rfl, rfl, hS0, ha0, ho, hx, hb, hml, hown, hts, hK, hA, hN, hSk, hAO, hR, hin⟩ := X
  intro H locs ls hP hD hS hw hlm hl
  subst hR
  refine va_newa (atype := .byte) (N' := len) (a0 := (len, .inl fun _ => 0)) hx hb (ty := .byte) (hts _ h1) rfl hK hP hD hS hA (fun cA => rfl) (fun q => by rw [pI_ltz ra] at q; omega) (by rw [clamp_pI ra]; omega) (by show len * 1 ≤ 536870912; omega) hcn hsn hd (fun q cA' H1 hK1 hP1 hD1 hS1 => ?_)
  have hc1 : cA' = cA 1 := by
    have g1 := (hK.2 1 _ rfl).2
    have g2 := (hK1.2 4 _ rfl).2
    exact Option.some.inj (g2.symm.trans g1)
  subst hc1
  have hl2 : (as' ++ mo).length = (S'.set o' d ++ T).length := by rw [List.length_append, List.length_append, List.length_set, ha0, hS0, hlm]
  have hz : σ (S'.set o' d ++ T).length = fun _ => 0 := funext fun i => hw.2.2 _ (Nat.le_refl _) i
  have e : lay (S'.set o' d ++ (T ++ [.inl (1, len)])) (Gk D cA ks (as' ++ (mo ++ [q]))) σ = lay (S'.set o' d ++ T) (Gk D cA ks (as' ++ mo)) σ ++ [(q, .inl (cA 1, (len, .inl fun _ => 0)))] := by
    rw [← List.append_assoc, ← List.append_assoc, lay_app hw.2.1 hl2, hz]
    rfl
  refine kk q (by rw [← hix, as_more ha0, ← hlm]; simp) H1 _ ls (by rw [e]; exact hP1) (by rw [e]; exact hD1) hS1 ?_ (by simp [hlm]) hl
  rw [← List.append_assoc]
  exact hw.app (fun h => by cases h)
theorem k_nal {E : EC} {cc : ByteArray} {own : String} {S0 : List Kd} {o n0 : Nat} {as0 : List Nat} {n fr lo mc ms : Nat} {d : Kd} {T : List Kd} {mo : List Nat} {σ : St} {cn sn : Nat} {pc : Nat} {L : List (Nat × Value)} {st : List Value} (X : CxK E cc own S0 o n0 as0 n fr lo mc ms) (ix : Nat) (hix : n0 + T.length = ix) {a : Int} {len : Nat} (hd : decode cc pc = .ok (.newarray .long, 2)) (h1 : Cond.arrayClass .long ∈ tbl) (ra : rg a) (ha : a = (len : Int)) (hb2 : len ≤ 60000) (hcn : cn + 1 ≤ mc) (hsn : sn + len ≤ ms) (kk : ∀ q, (as0 ++ (mo ++ [q]))[ix]? = some q → AtK E d (T ++ [.inl (2, len)]) (mo ++ [q]) σ (cn + 1) (sn + len) (pc + 2) L (.ref q :: st)) : AtK E d T mo σ cn sn pc L (.int (pI a) :: st) := by
  obtain ⟨p, l, e, R, s, m, args, below, meth, c, Q, D, cA, ks, n', A, S', o', as'⟩ := E
  obtain ⟨rfl, rfl, rfl, rfl, hS0, ha0, ho, hx, hb, hml, hown, hts, hK, hA, hN, hSk, hAO, hR, hin⟩ := X
  intro H locs ls hP hD hS hw hlm hl
  subst hR
  refine va_newa (atype := .long) (N' := len) (a0 := (len, .inr (.inl fun _ => 0))) hx hb (ty := .long) (hts _ h1) rfl hK hP hD hS hA (fun cA => rfl) (fun q => by rw [pI_ltz ra] at q; omega) (by rw [clamp_pI ra]; omega) (by show len * 8 ≤ 536870912; omega) hcn hsn hd (fun q cA' H1 hK1 hP1 hD1 hS1 => ?_)
  have hc1 : cA' = cA 2 := by
    have g1 := (hK.2 2 _ rfl).2
    have g2 := (hK1.2 4 _ rfl).2
    exact Option.some.inj (g2.symm.trans g1)
  subst hc1
  have hl2 : (as' ++ mo).length = (S'.set o' d ++ T).length := by rw [List.length_append, List.length_append, List.length_set, ha0, hS0, hlm]
  have hz : σ (S'.set o' d ++ T).length = fun _ => 0 := funext fun i => hw.2.2 _ (Nat.le_refl _) i
  have e : lay (S'.set o' d ++ (T ++ [.inl (2, len)])) (Gk D cA ks (as' ++ (mo ++ [q]))) σ = lay (S'.set o' d ++ T) (Gk D cA ks (as' ++ mo)) σ ++ [(q, .inl (cA 2, (len, .inr (.inl fun _ => 0))))] := by
    rw [← List.append_assoc, ← List.append_assoc, lay_app hw.2.1 hl2, hz]
    rfl
  refine kk q (by rw [← hix, as_more ha0, ← hlm]; simp) H1 _ ls (by rw [e]; exact hP1) (by rw [e]; exact hD1) hS1 ?_ (by simp [hlm]) hl
  rw [← List.append_assoc]
  exact hw.app (fun h => by cases h)
theorem k_nar {E : EC} {cc : ByteArray} {own : String} {S0 : List Kd} {o n0 : Nat} {as0 : List Nat} {n fr lo mc ms : Nat} {d : Kd} {T : List Kd} {mo : List Nat} {σ : St} {cn sn : Nat} {pc : Nat} {L : List (Nat × Value)} {st : List Value} (X : CxK E cc own S0 o n0 as0 n fr lo mc ms) (ix : Nat) (hix : n0 + T.length = ix) {a : Int} {idx len : Nat} (hd : decode cc pc = .ok (.anewarray idx, 3)) (h1 : Cond.classLink own idx "PorchHours$Houses" ∈ tbl) (ra : rg a) (ha : a = (len : Int)) (hb2 : len ≤ 60000) (hcn : cn + 1 ≤ mc) (hsn : sn + len ≤ ms) (kk : ∀ q, (as0 ++ (mo ++ [q]))[ix]? = some q → AtK E d (T ++ [.inl (3, len)]) (mo ++ [q]) σ (cn + 1) (sn + len) (pc + 3) L (.ref q :: st)) : AtK E d T mo σ cn sn pc L (.int (pI a) :: st) := by
  obtain ⟨p, l, e, R, s, m, args, below, meth, c, Q, D, cA, ks, n', A, S', o', as'⟩ := E
  obtain ⟨rfl, rfl, rfl, rfl, hS0, ha0, ho, hx, hb, hml, hown, hts, hK, hA, hN, hSk, hAO, hR, hin⟩ := X
  intro H locs ls hP hD hS hw hlm hl
  subst hR
  refine va_newq (N' := len) hx hb hown (hts _ h1) hAO hK hP hD hS hA (fun q => by rw [pI_ltz ra] at q; omega) (by rw [clamp_pI ra]; omega) (by omega) hcn hsn hd (fun q cA' H1 hK1 hP1 hD1 hS1 => ?_)
  have hc1 : cA' = cA 3 := by
    obtain ⟨_, _, _, _, _, g1⟩ := (hK.2 3 _ rfl).2
    obtain ⟨_, _, _, _, _, g2⟩ := (hK1.2 4 _ rfl).2
    exact Option.some.inj (g2.symm.trans g1)
  subst hc1
  have hl2 : (as' ++ mo).length = (S'.set o' d ++ T).length := by rw [List.length_append, List.length_append, List.length_set, ha0, hS0, hlm]
  have hz : σ (S'.set o' d ++ T).length = fun _ => 0 := funext fun i => hw.2.2 _ (Nat.le_refl _) i
  have e : lay (S'.set o' d ++ (T ++ [.inl (3, len)])) (Gk D cA ks (as' ++ (mo ++ [q]))) σ = lay (S'.set o' d ++ T) (Gk D cA ks (as' ++ mo)) σ ++ [(q, .inl (cA 3, len, .inr (.inr (.inr (.inr fun _ => none)))))] := by
    rw [← List.append_assoc, ← List.append_assoc, lay_app hw.2.1 hl2, hz]
    rfl
  refine kk q (by rw [← hix, as_more ha0, ← hlm]; simp) H1 _ ls (by rw [e]; exact hP1) (by rw [e]; exact hD1) hS1 ?_ (by simp [hlm]) hl
  rw [← List.append_assoc]
  refine hw.app (fun _ j => ?_)
  rw [List.length_append, List.length_set, hS0]
  show (0 : Int).toNat < _
  simp
  omega
theorem as_l {as0 mo m1 : List Nat} {i v : Nat} (h : (as0 ++ mo)[i]? = some v) : (as0 ++ (mo ++ m1))[i]? = some v := by
  rw [← List.append_assoc, List.getElem?_append_left (List.getElem?_eq_some_iff.mp h).1]
  exact h
theorem as_0 {as0 mo : List Nat} {i v : Nat} (h : as0[i]? = some v) : (as0 ++ mo)[i]? = some v := by
  rw [List.getElem?_append_left (List.getElem?_eq_some_iff.mp h).1]
  exact h
theorem at_old {S0 T : List Kd} {o k : Nat} {d x : Kd} (hk : k ≠ o) (h : S0[k]? = some x) : (S0.set o d ++ T)[k]? = some x := by
  have hl := (List.getElem?_eq_some_iff.mp h).1
  rw [List.getElem?_append_left (by rw [List.length_set]; exact hl), List.getElem?_set, if_neg (fun q => hk q.symm)]
  exact h
def FTF (own : String) (T : u_T) (N j : Nat) (ty : FieldType) (ty0 : Nat → FieldType) : Prop := (∀ k, k < N → parseFieldDescriptor (T k).2.2.1 = some (ty0 k)) ∧ (∀ a, a < N → ∀ b, b < N → a ≠ b → (T a).2.1 ≠ (T b).2.1) ∧ (T j).2.2.2 = true ∧ (T j).1 = own ∧ parseFieldDescriptor (T j).2.2.1 = some ty
theorem k_putRF {E : EC} {cc : ByteArray} {own : String} {S0 : List Kd} {o n0 : Nat} {as0 : List Nat} {n fr lo mc ms : Nat} {T : List Kd} {mo : List Nat} {σ : St} {cn sn : Nat} {pc : Nat} {L : List (Nat × Value)} {st : List Value} (X : CxK E cc own S0 o n0 as0 n fr lo mc ms) {idx ci j NF : Nat} {C : String} {TF : u_T} {ty0 : Nat → FieldType} {fs : List Nat} {ty : FieldType} {c0 v q : Nat} (hty : narrow ty (.ref v) = .ref v ∧ fits ty (.ref v) = true) (hq : (as0 ++ mo)[q]? = some v) (hd : decode cc pc = .ok (.putfield idx, 3)) (F : FL own idx ci j C TF NF) (F2 : FTF own TF NF j ty ty0) (h0 : fs[j]? = some c0) {a : Nat} (ha : as0[o]? = some a) (kk : AtK E (.inr (.inl (ci, fs.set j (q + 2)))) T mo σ cn sn (pc + 3) L st) : AtK E (.inr (.inl (ci, fs))) T mo σ cn sn pc L (.ref v :: .ref a :: st) := by
  obtain ⟨p, l, e, R, s, m, args, below, meth, c, Q, D, cA, ks, n', A, S', o', as'⟩ := E
  obtain ⟨rfl, rfl, rfl, rfl, hS0, ha0, ho, hx, hb, hml, hown, hts, hK, hA, hN, hSk, hAO, hR, hin⟩ := X
  intro H locs ls hP hD hS hw hlm hl
  obtain ⟨hC, hin2, hj, hT, hlk⟩ := F
  obtain ⟨f1, f2, f3, f5, f4⟩ := F2
  have hth : (S'.set o' (.inr (.inl (ci, fs))) ++ T)[o']? = some (.inr (.inl (ci, fs))) := at_this (by omega)
  have hg : (Gk D cA ks (as' ++ mo)).2.2.1 o' = a := Gk_at (as_0 ha)
  have hlen : j < fs.length := (List.getElem?_eq_some_iff.mp h0).1
  have hob := lay_obj (G := Gk D cA ks (as' ++ mo)) (σ := σ) hth
  rw [hg] at hob
  refine va_putF (v := .ref v) hx hb hts hin2 ty0 f1 f2 hown hK hP hD hS o' hob hC j hj (hts _ hlk) (fun _ h9 => hT ▸ h9) f3 hin f5 f4 hty.1 hty.2 (by simpa using hlen) hd (fun H1 locs1 hP1 hD1 hS1 => ?_)
  have hqv : (Gk D cA ks (as' ++ mo)).2.2.1 q = v := Gk_at hq
  have hql : q < (as' ++ mo).length := (List.getElem?_eq_some_iff.mp hq).1
  have e : (lay (S'.set o' (.inr (.inl (ci, fs))) ++ T) (Gk D cA ks (as' ++ mo)) σ).set o' (a, .inr (ci, (fs.mapIdx (fv (Gk D cA ks (as' ++ mo)) (σ o'))).set j (.ref v))) = lay (S'.set o' (.inr (.inl (ci, fs.set j (q + 2)))) ++ T) (Gk D cA ks (as' ++ mo)) σ := by
    rw [← hqv, set_fv hlen, ← hg]
    refine (lay_setd (σ' := σ) (d' := .inr (.inl (ci, fs.set j (q + 2)))) (List.getElem?_eq_some_iff.mp hth).1 rfl (fun _ _ => rfl)).trans ?_
    rw [set_app (by omega)]
  rw [e] at hP1 hD1
  refine kk H1 locs1 ls hP1 hD1 hS1 ?_ hlm hl
  rw [← set_app (d := .inr (.inl (ci, fs))) (show o' < S'.length by omega)]
  refine hw.setd hth ?_ ?_
  · rw [kl_obj hth, kl_obj (x := (ci, fs.set j (q + 2)))]
    rw [set_app (by omega)]
    exact at_this (by omega)
  · intro c hc
    rcases List.mem_or_eq_of_mem_set hc with h | rfl
    · exact hw.2.1 o' _ hth c h
    · rw [List.length_append, List.length_set]
      rw [List.length_append] at hql
      omega
theorem k_putIF {E : EC} {cc : ByteArray} {own : String} {S0 : List Kd} {o n0 : Nat} {as0 : List Nat} {n fr lo mc ms : Nat} {T : List Kd} {mo : List Nat} {σ : St} {cn sn : Nat} {pc : Nat} {L : List (Nat × Value)} {st : List Value} (X : CxK E cc own S0 o n0 as0 n fr lo mc ms) {idx ci j NF : Nat} {C : String} {TF : u_T} {ty0 : Nat → FieldType} {fs : List Nat} {w : Int} (rv : rg w) (hd : decode cc pc = .ok (.putfield idx, 3)) (F : FL own idx ci j C TF NF) (F2 : FTF own TF NF j .int ty0) (h0 : fs[j]? = some 0) {a : Nat} (ha : as0[o]? = some a) (kk : AtK E (.inr (.inl (ci, fs))) T mo (up σ o j w) cn sn (pc + 3) L st) : AtK E (.inr (.inl (ci, fs))) T mo σ cn sn pc L (.int (pI w) :: .ref a :: st) := by
  obtain ⟨p, l, e, R, s, m, args, below, meth, c, Q, D, cA, ks, n', A, S', o', as'⟩ := E
  obtain ⟨rfl, rfl, rfl, rfl, hS0, ha0, ho, hx, hb, hml, hown, hts, hK, hA, hN, hSk, hAO, hR, hin⟩ := X
  intro H locs ls hP hD hS hw hlm hl
  obtain ⟨hC, hin2, hj, hT, hlk⟩ := F
  obtain ⟨f1, f2, f3, f5, f4⟩ := F2
  have hth : (S'.set o' (.inr (.inl (ci, fs))) ++ T)[o']? = some (.inr (.inl (ci, fs))) := at_this (by omega)
  have hg : (Gk D cA ks (as' ++ mo)).2.2.1 o' = a := Gk_at (as_0 ha)
  have hlen : j < fs.length := (List.getElem?_eq_some_iff.mp h0).1
  have hob := lay_obj (G := Gk D cA ks (as' ++ mo)) (σ := σ) hth
  rw [hg] at hob
  refine va_putF (v := .int (pI w)) hx hb hts hin2 ty0 f1 f2 hown hK hP hD hS o' hob hC j hj (hts _ hlk) (fun _ h9 => hT ▸ h9) f3 hin f5 f4 rfl rfl (by simpa using hlen) hd (fun H1 locs1 hP1 hD1 hS1 => ?_)
  have e : (lay (S'.set o' (.inr (.inl (ci, fs))) ++ T) (Gk D cA ks (as' ++ mo)) σ).set o' (a, .inr (ci, (fs.mapIdx (fv (Gk D cA ks (as' ++ mo)) (σ o'))).set j (.int (pI w)))) = lay (S'.set o' (.inr (.inl (ci, fs))) ++ T) (Gk D cA ks (as' ++ mo)) (up σ o' j w) := by
    rw [← hg]
    exact lay_set (σ' := up σ o' j w) hth (by show _ = Sum.inr (ci, fs.mapIdx (fv (Gk D cA ks (as' ++ mo)) (up σ o' j w o'))); rw [fv_set h0 (g := up σ o' j w o') (by rw [up_at, if_pos rfl]) (fun i hi => by rw [up_at, if_neg hi])]) (fun k' h' => up_ne h')
  rw [e] at hP1 hD1
  refine kk H1 locs1 ls hP1 hD1 hS1 (hw.up hth ?_ ?_) hlm hl
  · rw [kl_obj hth]
    exact rv
  · exact hw.2.1 o' _ hth
theorem k_putI {E : EC} {cc : ByteArray} {own : String} {S0 : List Kd} {o n0 : Nat} {as0 : List Nat} {n fr lo mc ms : Nat} {T : List Kd} {mo : List Nat} {σ : St} {cn sn : Nat} {pc : Nat} {L : List (Nat × Value)} {st : List Value} (X : CxK E cc own S0 o n0 as0 n fr lo mc ms) {idx ci j NF : Nat} {C : String} {TF : u_T} {ty0 : Nat → FieldType} {fs : List Nat} {w : Int} (rv : rg w) (hd : decode cc pc = .ok (.putfield idx, 3)) (F : FL own idx ci j C TF NF) (F2 : FT TF NF j .int ty0) (h0 : fs[j]? = some 0) {a : Nat} (ha : as0[o]? = some a) (kk : AtK E (.inr (.inl (ci, fs))) T mo (up σ o j w) cn sn (pc + 3) L st) : AtK E (.inr (.inl (ci, fs))) T mo σ cn sn pc L (.int (pI w) :: .ref a :: st) := by
  obtain ⟨p, l, e, R, s, m, args, below, meth, c, Q, D, cA, ks, n', A, S', o', as'⟩ := E
  obtain ⟨rfl, rfl, rfl, rfl, hS0, ha0, ho, hx, hb, hml, hown, hts, hK, hA, hN, hSk, hAO, hR, hin⟩ := X
  intro H locs ls hP hD hS hw hlm hl
  obtain ⟨hC, hin2, hj, hT, hlk⟩ := F
  obtain ⟨f1, f2, f3, f4⟩ := F2
  have hth : (S'.set o' (.inr (.inl (ci, fs))) ++ T)[o']? = some (.inr (.inl (ci, fs))) := at_this (by omega)
  have hg : (Gk D cA ks (as' ++ mo)).2.2.1 o' = a := Gk_at (as_0 ha)
  have hlen : j < fs.length := (List.getElem?_eq_some_iff.mp h0).1
  have hob := lay_obj (G := Gk D cA ks (as' ++ mo)) (σ := σ) hth
  rw [hg] at hob
  refine va_put (v := .int (pI w)) hx hb hts hin2 ty0 f1 f2 hown hK hP hD hS o' hob hC j hj (hts _ hlk) (fun _ h9 => hT ▸ h9) f3 f4 rfl rfl (by simpa using hlen) hd (fun H1 locs1 hP1 hD1 hS1 => ?_)
  have e : (lay (S'.set o' (.inr (.inl (ci, fs))) ++ T) (Gk D cA ks (as' ++ mo)) σ).set o' (a, .inr (ci, (fs.mapIdx (fv (Gk D cA ks (as' ++ mo)) (σ o'))).set j (.int (pI w)))) = lay (S'.set o' (.inr (.inl (ci, fs))) ++ T) (Gk D cA ks (as' ++ mo)) (up σ o' j w) := by
    rw [← hg]
    exact lay_set (σ' := up σ o' j w) hth (by show _ = Sum.inr (ci, fs.mapIdx (fv (Gk D cA ks (as' ++ mo)) (up σ o' j w o'))); rw [fv_set h0 (g := up σ o' j w o') (by rw [up_at, if_pos rfl]) (fun i hi => by rw [up_at, if_neg hi])]) (fun k' h' => up_ne h')
  rw [e] at hP1 hD1
  refine kk H1 locs1 ls hP1 hD1 hS1 (hw.up hth ?_ ?_) hlm hl
  · rw [kl_obj hth]
    exact rv
  · exact hw.2.1 o' _ hth
theorem k_putZ {E : EC} {cc : ByteArray} {own : String} {S0 : List Kd} {o n0 : Nat} {as0 : List Nat} {n fr lo mc ms : Nat} {T : List Kd} {mo : List Nat} {σ : St} {cn sn : Nat} {pc : Nat} {L : List (Nat × Value)} {st : List Value} (X : CxK E cc own S0 o n0 as0 n fr lo mc ms) {idx ci j NF : Nat} {C : String} {TF : u_T} {ty0 : Nat → FieldType} {fs : List Nat} {w : Int} (rv : r01 w) (hd : decode cc pc = .ok (.putfield idx, 3)) (F : FL own idx ci j C TF NF) (F2 : FT TF NF j .boolean ty0) (h0 : fs[j]? = some 0) {a : Nat} (ha : as0[o]? = some a) (kk : AtK E (.inr (.inl (ci, fs))) T mo (up σ o j w) cn sn (pc + 3) L st) : AtK E (.inr (.inl (ci, fs))) T mo σ cn sn pc L (.int (pI w) :: .ref a :: st) := by
  obtain ⟨p, l, e, R, s, m, args, below, meth, c, Q, D, cA, ks, n', A, S', o', as'⟩ := E
  obtain ⟨rfl, rfl, rfl, rfl, hS0, ha0, ho, hx, hb, hml, hown, hts, hK, hA, hN, hSk, hAO, hR, hin⟩ := X
  intro H locs ls hP hD hS hw hlm hl
  obtain ⟨hC, hin2, hj, hT, hlk⟩ := F
  obtain ⟨f1, f2, f3, f4⟩ := F2
  have hth : (S'.set o' (.inr (.inl (ci, fs))) ++ T)[o']? = some (.inr (.inl (ci, fs))) := at_this (by omega)
  have hg : (Gk D cA ks (as' ++ mo)).2.2.1 o' = a := Gk_at (as_0 ha)
  have hlen : j < fs.length := (List.getElem?_eq_some_iff.mp h0).1
  have hob := lay_obj (G := Gk D cA ks (as' ++ mo)) (σ := σ) hth
  rw [hg] at hob
  refine va_put (v := .int (pI w)) hx hb hts hin2 ty0 f1 f2 hown hK hP hD hS o' hob hC j hj (hts _ hlk) (fun _ h9 => hT ▸ h9) f3 f4 (by rcases rv with rfl | rfl <;> rfl) (by rcases rv with rfl | rfl <;> rfl) (by simpa using hlen) hd (fun H1 locs1 hP1 hD1 hS1 => ?_)
  have e : (lay (S'.set o' (.inr (.inl (ci, fs))) ++ T) (Gk D cA ks (as' ++ mo)) σ).set o' (a, .inr (ci, (fs.mapIdx (fv (Gk D cA ks (as' ++ mo)) (σ o'))).set j (.int (pI w)))) = lay (S'.set o' (.inr (.inl (ci, fs))) ++ T) (Gk D cA ks (as' ++ mo)) (up σ o' j w) := by
    rw [← hg]
    exact lay_set (σ' := up σ o' j w) hth (by show _ = Sum.inr (ci, fs.mapIdx (fv (Gk D cA ks (as' ++ mo)) (up σ o' j w o'))); rw [fv_set h0 (g := up σ o' j w o') (by rw [up_at, if_pos rfl]) (fun i hi => by rw [up_at, if_neg hi])]) (fun k' h' => up_ne h')
  rw [e] at hP1 hD1
  refine kk H1 locs1 ls hP1 hD1 hS1 (hw.up hth ?_ ?_) hlm hl
  · rw [kl_obj hth]
    exact (r01_rg rv)
  · exact hw.2.1 o' _ hth
theorem k_getR {E : EC} {cc : ByteArray} {own : String} {S0 : List Kd} {o n0 : Nat} {as0 : List Nat} {n fr lo mc ms : Nat} {d : Kd} {T : List Kd} {mo : List Nat} {σ : St} {cn sn : Nat} {pc : Nat} {L : List (Nat × Value)} {st : List Value} (X : CxK E cc own S0 o n0 as0 n fr lo mc ms) {idx ci j NF ix q a : Nat} {C : String} {TF : u_T} {fs : List Nat} (hd : decode cc pc = .ok (.getfield idx, 3)) (F : FL own idx ci j C TF NF) (hS2 : (S0.set o d ++ T)[ix]? = some (.inr (.inl (ci, fs)))) (ha : (as0 ++ mo)[ix]? = some a) (h0 : fs[j]? = some (q + 2)) (kk : ∀ v, (as0 ++ mo)[q]? = some v → AtK E d T mo σ cn sn (pc + 3) L (.ref v :: st)) : AtK E d T mo σ cn sn pc L (.ref a :: st) := by
  obtain ⟨p, l, e, R, s, m, args, below, meth, c, Q, D, cA, ks, n', A, S', o', as'⟩ := E
  obtain ⟨rfl, rfl, rfl, rfl, hS0, ha0, ho, hx, hb, hml, hown, hts, hK, hA, hN, hSk, hAO, hR, hin⟩ := X
  intro H locs ls hP hD hS hw hlm hl
  obtain ⟨hC, hin2, hj, hT, hlk⟩ := F
  have hq := hw.2.1 ix _ hS2 (q + 2) (List.mem_of_getElem? h0)
  have hq2 : q < (as' ++ mo).length := by
    rw [List.length_append, List.length_set] at hq
    rw [List.length_append]
    omega
  have hqv : (as' ++ mo)[q]? = some (as' ++ mo)[q] := List.getElem?_eq_getElem hq2
  have hob := lay_obj (G := Gk D cA ks (as' ++ mo)) (σ := σ) hS2
  rw [Gk_at ha] at hob
  refine va_get (v := .ref (as' ++ mo)[q]) hx hb hts hin2 hown hK hP ix hob hC j hj (hts _ hlk) (fun _ h9 => hT ▸ h9) ?_ hd ?_
  · rw [fv_at h0]
    show some (Value.ref ((as' ++ mo).getD q 0)) = _
    simp [List.getD, hqv]
  · exact kk _ hqv H locs ls hP hD hS hw hlm hl
theorem k_getRN {E : EC} {cc : ByteArray} {own : String} {S0 : List Kd} {o n0 : Nat} {as0 : List Nat} {n fr lo mc ms : Nat} {d : Kd} {T : List Kd} {mo : List Nat} {σ : St} {cn sn : Nat} {pc : Nat} {L : List (Nat × Value)} {st : List Value} (X : CxK E cc own S0 o n0 as0 n fr lo mc ms) {idx ci j NF ix q a : Nat} {C : String} {TF : u_T} {fs : List Nat} (hd : decode cc pc = .ok (.getfield idx, 3)) (F : FN own idx ci j C TF NF) (hS2 : (S0.set o d ++ T)[ix]? = some (.inr (.inl (ci, fs)))) (ha : (as0 ++ mo)[ix]? = some a) (h0 : fs[j]? = some (q + 2)) (kk : ∀ v, (as0 ++ mo)[q]? = some v → AtK E d T mo σ cn sn (pc + 3) L (.ref v :: st)) : AtK E d T mo σ cn sn pc L (.ref a :: st) := by
  obtain ⟨p, l, e, R, s, m, args, below, meth, c, Q, D, cA, ks, n', A, S', o', as'⟩ := E
  obtain ⟨rfl, rfl, rfl, rfl, hS0, ha0, ho, hx, hb, hml, hown, hts, hK, hA, hN, hSk, hAO, hR, hin⟩ := X
  intro H locs ls hP hD hS hw hlm hl
  obtain ⟨hC, hin2, hj, hT, host, hlk⟩ := F
  have hq := hw.2.1 ix _ hS2 (q + 2) (List.mem_of_getElem? h0)
  have hq2 : q < (as' ++ mo).length := by
    rw [List.length_append, List.length_set] at hq
    rw [List.length_append]
    omega
  have hqv : (as' ++ mo)[q]? = some (as' ++ mo)[q] := List.getElem?_eq_getElem hq2
  have hob := lay_obj (G := Gk D cA ks (as' ++ mo)) (σ := σ) hS2
  rw [Gk_at ha] at hob
  refine va_getN (v := .ref (as' ++ mo)[q]) hx hb hts hin2 hown hK hP ix hob hC j hj (va_Nw.use rfl (hN _ hlk)) (fun _ h9 => hT ▸ h9) ?_ hd ?_
  · rw [fv_at h0]
    show some (Value.ref ((as' ++ mo).getD q 0)) = _
    simp [List.getD, hqv]
  · exact kk _ hqv H locs ls hP hD hS hw hlm hl
theorem k_iast {E : EC} {cc : ByteArray} {own : String} {S0 : List Kd} {o n0 : Nat} {as0 : List Nat} {n fr lo mc ms : Nat} {d : Kd} {T : List Kd} {mo : List Nat} {σ : St} {cn sn : Nat} {pc : Nat} {L : List (Nat × Value)} {st : List Value} (X : CxK E cc own S0 o n0 as0 n fr lo mc ms) {k len a : Nat} {i v : Int} (hd : decode cc pc = .ok (.iastore, 1)) (hk : (S0.set o d ++ T)[k]? = some (.inl (0, len))) (ha : (as0 ++ mo)[k]? = some a) (ri : rg i) (rv : rg v) (hi : 0 ≤ i ∧ i < len) (kk : AtK E d T mo (up σ k i v) cn sn (pc + 1) L st) : AtK E d T mo σ cn sn pc L (.int (pI v) :: .int (pI i) :: .ref a :: st) := by
  obtain ⟨p, l, e, R, s, m, args, below, meth, c, Q, D, cA, ks, n', A, S', o', as'⟩ := E
  obtain ⟨rfl, rfl, rfl, rfl, hS0, ha0, ho, hx, hb, hml, hown, hts, hK, hA, hN, hSk, hAO, hR, hin⟩ := X
  intro H locs ls hP hD hS hw hlm hl
  have hob := lay_int (G := Gk D cA ks (as' ++ mo)) (σ := σ) hk
  rw [Gk_at ha] at hob
  refine va_iast hx hb hK hP hD hS k 0 hob rfl (in_pI ri hi) hd (fun H1 locs1 hP1 hD1 hS1 => ?_)
  have e := lay_set (G := Gk D cA ks (as' ++ mo)) (σ := σ) (σ' := up σ k i v) hk (x := .inl ((Gk D cA ks (as' ++ mo)).2.1 0, len, .inl (upd (fun j : Nat => pI (σ k j)) (pI i).toNatClampNeg (pI v)))) (by rw [upd_up hi.1 ri]; rfl) (fun k' h' => up_ne h')
  rw [Gk_at ha] at e
  rw [e] at hP1 hD1
  exact kk H1 locs1 ls hP1 hD1 hS1 (hw.up hk (by rw [kl_int hk]; exact rv) (fun h => by cases h)) hlm hl
theorem k_aast {E : EC} {cc : ByteArray} {own : String} {S0 : List Kd} {o n0 : Nat} {as0 : List Nat} {n fr lo mc ms : Nat} {d : Kd} {T : List Kd} {mo : List Nat} {σ : St} {cn sn : Nat} {pc : Nat} {L : List (Nat × Value)} {st : List Value} (X : CxK E cc own S0 o n0 as0 n fr lo mc ms) {k len a v q ci : Nat} {i : Int} {fs : List Nat} {TF : u_T} {NF : Nat} (hd : decode cc pc = .ok (.aastore, 1)) (hk : (S0.set o d ++ T)[k]? = some (.inl (3, len))) (ha : (as0 ++ mo)[k]? = some a) (hq : (as0 ++ mo)[q]? = some v) (hq0 : 0 < q) (hq1 : (q : Int) ≤ 60000) (hqS : (S0.set o d ++ T)[q]? = some (.inr (.inl (ci, fs)))) (hc : vwCl[ci]? = some ("PorchHours$Houses", TF, NF)) (ri : rg i) (hi : 0 ≤ i ∧ i < len) (kk : AtK E d T mo (up σ k i q) cn sn (pc + 1) L st) : AtK E d T mo σ cn sn pc L (.ref v :: .int (pI i) :: .ref a :: st) := by
  obtain ⟨p, l, e, R, s, m, args, below, meth, c, Q, D, cA, ks, n', A, S', o', as'⟩ := E
  obtain ⟨rfl, rfl, rfl, rfl, hS0, ha0, ho, hx, hb, hml, hown, hts, hK, hA, hN, hSk, hAO, hR, hin⟩ := X
  intro H locs ls hP hD hS hw hlm hl
  have hob : (lay (S'.set o' d ++ T) (Gk D cA ks (as' ++ mo)) σ)[k]? = some ((Gk D cA ks (as' ++ mo)).2.2.1 k, .inl (cA 3, len, .inr (.inr (.inr (.inr fun j : Nat => if σ k j = 0 then none else some ((as' ++ mo).getD (σ k j).toNat 0)))))) := lay_at hk
  rw [Gk_at ha] at hob
  have hob2 := lay_obj (G := Gk D cA ks (as' ++ mo)) (σ := σ) hqS
  rw [Gk_at hq] at hob2
  refine va_astq hx hb hK hP hD hS k 3 q ci hob rfl hob2 hc (in_pI ri hi) hd (fun H1 locs1 hP1 hD1 hS1 => ?_)
  have e := lay_set (G := Gk D cA ks (as' ++ mo)) (σ := σ) (σ' := up σ k i q) hk (x := .inl (cA 3, len, .inr (.inr (.inr (.inr (va_up (fun j : Nat => if σ k j = 0 then none else some ((as' ++ mo).getD (σ k j).toNat 0)) (pI i).toNatClampNeg (some v))))))) (by
    show Sum.inl (cA 3, len, _) = Sum.inl (cA 3, len, Sum.inr (Sum.inr (Sum.inr (Sum.inr fun j : Nat => if up σ k i q k j = 0 then none else some ((as' ++ mo).getD (up σ k i q k j).toNat 0)))))
    congr 6
    congr 1
    funext j
    rw [clamp_pI ri, up_at]
    unfold va_up
    by_cases hj : j = i.toNat
    · rw [if_pos hj, if_pos (show (j : Int) = i by omega), if_neg (by omega)]
      simp [List.getD, hq]
    · rw [if_neg hj, if_neg (show ¬ (j : Int) = i by omega)]) (fun k' h' => up_ne h')
  rw [Gk_at ha] at e
  rw [e] at hP1 hD1
  have hkl : kl (S'.set o' d ++ T) k = false := by unfold kl; rw [hk]; rfl
  refine kk H1 locs1 ls hP1 hD1 hS1 (hw.up hk (by rw [hkl]; show rg (q : Int); unfold rg; omega) (fun h3 j => ?_)) hlm hl
  rw [up_at]
  split
  · have := (List.getElem?_eq_some_iff.mp hqS).1
    simpa using this
  · exact hw.2.1 k _ hk h3 j
theorem k_vret {E : EC} {cc : ByteArray} {own : String} {S0 : List Kd} {o n0 : Nat} {as0 : List Nat} {n fr lo mc ms : Nat} {d : Kd} {T : List Kd} {mo : List Nat} {σ : St} {cn sn : Nat} {pc : Nat} {L : List (Nat × Value)} (X : CxK E cc own S0 o n0 as0 n fr lo mc ms) {σ1 : St} {k : Nat} (Y : RtK E T d σ1 k) (hd : decode cc pc = .ok (.return_, 1)) (hs : σ = σ1) (hc : cn ≤ mc ∧ sn ≤ ms) : AtK E d T mo σ cn sn pc L [] := by
  obtain ⟨p, l, e, R, s, m, args, below, meth, c, Q, D, cA, ks, n', A, S', o', as'⟩ := E
  obtain ⟨rfl, rfl, rfl, rfl, hS0, ha0, ho, hx, hb, hml, hown, hts, hK, hA, hN, hSk, hAO, hR, hin⟩ := X
  intro H locs ls hP hD hS hw hlm hl
  obtain ⟨rfl, rfl, hr, hlocks, rfl⟩ := Y
  subst hs
  subst hR
  refine W.widen hc.1 hc.2 ?_
  exact W.vret hx hb hr (fun t ht hW => ⟨⟨mo, rfl, hlm, by rw [ht]; exact hP, hD, hw⟩, hS.F ht⟩) hS.2.2 hd
theorem pwK_blind {S : List Kd} {D : va_G} {cA : Nat → ClassId} {ks : (Nat → Nat) × (Nat → Nat)} {as : List Nat} {σ : St} {sz : Nat} {vs : List Value} : FrameBlind (va_Pc vs (PwK S D cA ks as σ sz)) := by
  intro a U g mk q
  obtain ⟨q0, q1, qP, qK, qD, qg, qN, qS, qA, ql⟩ := q
  exact ⟨q0, q1, qP, va_K.moved (u := U) (U := U.calling g mk a) (Vm.Alike.refl U.vm) qK, qD, qg, Nws.same (u := U) (U := U.calling g mk a) rfl qN, Sk.same (u := U) (U := U.calling g mk a) rfl rfl qS, va_AO.moved (u := U) (U := U.calling g mk a) (Vm.Alike.refl U.vm) qA, ql⟩
theorem aA_in {S : List Kd} {D : va_G} {cA : Nat → ClassId} {ks : (Nat → Nat) × (Nat → Nat)} {as : List Nat} {σ : St} {A : Nat → Prop} {a b : Nat} (hD : va_D A (lay S (Gk D cA ks as) σ)) (hA : ∀ q, a ≤ q → A q) (h : a ≤ b) : ∀ q, aA S (Gk D cA ks as) b q → A q := by
  intro q hq
  rcases hq with ⟨k, hk, rfl⟩ | hq
  · exact hD.2 k _ (lay_at (List.getElem?_eq_getElem hk))
  · exact hA q (Nat.le_trans h hq)
/-- a constructor's words -/
def WI (y : MethodName) (b : ByteArray) (n na : Nat) : Prop := Cond.instanceMethod y ∈ tbl ∧ Cond.initialized y.cls ∈ tbl ∧ Cond.code y b n none ∈ tbl ∧ y.cls ≠ "java/lang/invoke/MethodHandle" ∧ y.cls ≠ "java/lang/invoke/VarHandle" ∧ (parseMethodDescriptor y.desc).map (fun d => d.parameters.length) = some na
theorem gdI {y : MethodName} {b : ByteArray} {n na : Nat} (w : WI y b n na) : GoodIn tbl (wY y b n none) := by
  obtain ⟨w1, w3, w4, -⟩ := w
  apply tbG
  intro w hw
  rcases List.mem_cons.mp hw with rfl | h
  · exact w4
  · exact h
theorem k_ctor {E : EC} {cc : ByteArray} {own : String} {S0 : List Kd} {o n0 : Nat} {as0 : List Nat} {n fr lo mc ms : Nat} {d : Kd} {T : List Kd} {mo : List Nat} {σ : St} {cn sn : Nat} {pc : Nat} {L : List (Nat × Value)} {st : List Value} (X : CxK E cc own S0 o n0 as0 n fr lo mc ms) {idx na n1 fr1 lo1 mc1 ms1 k1 a1 : Nat} {y : MethodName} {b1 : ByteArray} {S1 T1 : List Kd} {σ1 : St} (hd : decode cc pc = .ok (.invokespecial idx, 3)) (hlk : Cond.methodLink own idx y ∈ tbl) (w : WI y b1 n1 na) (hy1 : y.name = "<init>") (hR1 : fr1 + 1 ≤ fr ∧ 8 + (n1 + 11) + lo1 ≤ lo) (As rest : List Value) (hst : st = As.reverse ++ .ref a1 :: rest) (hna : As.length = na) (hrm : (rest.map fun v => v.category).sum ≤ 8) (hct : ∀ D cA ks, CtK y b1 n1 fr1 lo1 mc1 ms1 (S0.set o d ++ T) D cA ks (as0 ++ mo) (.ref a1 :: As) σ S1 k1 σ1) (hS1 : S1 = S0.set o d ++ T1) (hT1 : T1.length = T.length + k1) (hcn : cn + mc1 ≤ mc) (hsn : sn + ms1 ≤ ms) (kk : ∀ m1, m1.length = k1 → AtK E d T1 (mo ++ m1) σ1 (cn + mc1) (sn + ms1) (pc + 3) L rest) : AtK E d T mo σ cn sn pc L st := by
  obtain ⟨p, l, e, R, s, m, args, below, meth, c, Q, D, cA, ks, n', A, S', o', as'⟩ := E
  obtain ⟨rfl, rfl, rfl, rfl, hS0, ha0, ho, hx, hb, hml, hown, hts, hK, hA, hN, hSk, hAO, hR, hin⟩ := X
  intro H locs ls hP hD hS hw hlm hl
  subst hst
  subst hS1
  subst hR
  have hc1 := hct D cA ks l H.size
  have hl2 : (as' ++ mo).length = (S'.set o' d ++ T).length := by rw [List.length_append, List.length_append, List.length_set, ha0, hS0, hlm]
  refine va_callv (va_runI (As := As) (rest := rest) ⟨hx, hb, hml, hown, hts⟩ hc1 (cwI na hts (gdI w) rfl rfl rfl (hts _ w.2.1) (hts _ hlk) (hts _ w.1) hy1 w.2.2.2 hR1) ⟨pwK_blind, fun U hU hW => ⟨rfl, by rw [hU], by rw [hU]; exact hP, va_K.moved hW.alike hK, ⟨hD.1, fun _ _ _ => trivial⟩, hw, hN.warm hW, hSk.go hS hU hW (aA_in hD hA hS.1), va_AO.moved hW.alike hAO, hl2⟩⟩ rfl hna hl.1 rfl (lv_room hrm) hd ⟨hcn, hsn⟩) hS (fun q _ hq => aA_in hD hA hS.1 q hq) (fun q hq => aA_in hD hA hS.1 q hq) (fun m1 t H1 locs1 ht hvm hw1 hB hz1 hk1 hS1 => ?_)
  obtain ⟨hP1, hD1, hg1⟩ := hB
  rw [ht] at hP1
  rw [List.append_assoc] at hP1 hD1
  exact kk m1 hw1 H1 locs1 ls hP1 ⟨hD1.1, fun k q hq => aA_in hD hA hS.1 _ (hD1.2 k q hq)⟩ hS1 hg1 (by rw [List.length_append, hw1, hlm, hT1]) hl
theorem k_ctorN {E : EC} {cc : ByteArray} {own : String} {S0 : List Kd} {o n0 : Nat} {as0 : List Nat} {n fr lo mc ms : Nat} {d : Kd} {T : List Kd} {mo : List Nat} {σ : St} {cn sn : Nat} {pc : Nat} {L : List (Nat × Value)} {st : List Value} (X : CxK E cc own S0 o n0 as0 n fr lo mc ms) {idx na n1 fr1 lo1 mc1 ms1 k1 a1 : Nat} {y : MethodName} {b1 : ByteArray} {S1 T1 : List Kd} {σ1 : St} (hd : decode cc pc = .ok (.invokespecial idx, 3)) {host : String} (hlk : Cond.methodLinkNest own idx y host ∈ nst) (w : WI y b1 n1 na) (hy1 : y.name = "<init>") (hR1 : fr1 + 1 ≤ fr ∧ 8 + (n1 + 11) + lo1 ≤ lo) (As rest : List Value) (hst : st = As.reverse ++ .ref a1 :: rest) (hna : As.length = na) (hrm : (rest.map fun v => v.category).sum ≤ 8) (hct : ∀ D cA ks, CtK y b1 n1 fr1 lo1 mc1 ms1 (S0.set o d ++ T) D cA ks (as0 ++ mo) (.ref a1 :: As) σ S1 k1 σ1) (hS1 : S1 = S0.set o d ++ T1) (hT1 : T1.length = T.length + k1) (hcn : cn + mc1 ≤ mc) (hsn : sn + ms1 ≤ ms) (kk : ∀ m1, m1.length = k1 → AtK E d T1 (mo ++ m1) σ1 (cn + mc1) (sn + ms1) (pc + 3) L rest) : AtK E d T mo σ cn sn pc L st := by
  obtain ⟨p, l, e, R, s, m, args, below, meth, c, Q, D, cA, ks, n', A, S', o', as'⟩ := E
  obtain ⟨rfl, rfl, rfl, rfl, hS0, ha0, ho, hx, hb, hml, hown, hts, hK, hA, hN, hSk, hAO, hR, hin⟩ := X
  intro H locs ls hP hD hS hw hlm hl
  subst hst
  subst hS1
  subst hR
  have hc1 := hct D cA ks l H.size
  have hl2 : (as' ++ mo).length = (S'.set o' d ++ T).length := by rw [List.length_append, List.length_append, List.length_set, ha0, hS0, hlm]
  refine va_callv (va_runIN (As := As) (rest := rest) ⟨hx, hb, hml, hown, hts⟩ hc1 ⟨va_cnB na hts (gdI w) rfl rfl rfl (hN _ hlk) (hts _ w.2.1) w.2.2.2 hR1, hy1, hts _ w.1⟩ ⟨pwK_blind, fun U hU hW => ⟨rfl, by rw [hU], by rw [hU]; exact hP, va_K.moved hW.alike hK, ⟨hD.1, fun _ _ _ => trivial⟩, hw, hN.warm hW, hSk.go hS hU hW (aA_in hD hA hS.1), va_AO.moved hW.alike hAO, hl2⟩⟩ rfl hna hl.1 rfl (lv_room hrm) hd ⟨hcn, hsn⟩) hS (fun q _ hq => aA_in hD hA hS.1 q hq) (fun q hq => aA_in hD hA hS.1 q hq) (fun m1 t H1 locs1 ht hvm hw1 hB hz1 hk1 hS1 => ?_)
  obtain ⟨hP1, hD1, hg1⟩ := hB
  rw [ht] at hP1
  rw [List.append_assoc] at hP1 hD1
  exact kk m1 hw1 H1 locs1 ls hP1 ⟨hD1.1, fun k q hq => aA_in hD hA hS.1 _ (hD1.2 k q hq)⟩ hS1 hg1 (by rw [List.length_append, hw1, hlm, hT1]) hl
theorem k_addI {E : EC} {cc : ByteArray} {own : String} {S0 : List Kd} {o n0 : Nat} {as0 : List Nat} {n fr lo mc ms : Nat} {d : Kd} {T : List Kd} {mo : List Nat} {σ : St} {cn sn : Nat} {pc : Nat} {L : List (Nat × Value)} {st : List Value} (X : CxK E cc own S0 o n0 as0 n fr lo mc ms) {idx na n1 fr1 lo1 k ci NF a1 : Nat} {fs : List Nat} {TF : u_T} {y : MethodName} {b1 : ByteArray} {ret1 : Option FieldType} {r : Int} {pr : Int → Prop} {σ1 : St} (hd : decode cc pc = .ok (.invokevirtual idx, 3)) (hlk : Cond.methodLink own idx y ∈ tbl) (w : WV y b1 n1 ret1 na) (hk : (S0.set o d ++ T)[k]? = some (.inr (.inl (ci, fs)))) (hc : vwCl[ci]? = some (y.cls, TF, NF)) (ha : (as0 ++ mo)[k]? = some a1) (hR1 : fr1 + 1 ≤ fr ∧ 8 + (n1 + 11) + lo1 ≤ lo) (As rest : List Value) (hst : st = As.reverse ++ .ref a1 :: rest) (hna : As.length = na) (hrm : (rest.map fun v => v.category).sum ≤ 8) (hct : ∀ G : Gw, Ct y b1 n1 ret1 fr1 lo1 (S0.set o d ++ T) G (.ref (G.2.2.1 k) :: As) σ (QI (S0.set o d ++ T) G r pr σ1)) (hcell : cn + 0 ≤ mc ∧ sn + 0 ≤ ms) (hwf : Wf (S0.set o d ++ T) σ → Wf (S0.set o d ++ T) σ1) (kk : AtK E d T mo σ1 cn sn (pc + 3) L (.int (pI r) :: rest)) : AtK E d T mo σ cn sn pc L st := by
  obtain ⟨p, l, e, R, s, m, args, below, meth, c, Q, D, cA, ks, n', A, S', o', as'⟩ := E
  obtain ⟨rfl, rfl, rfl, rfl, hS0, ha0, ho, hx, hb, hml, hown, hts, hK, hA, hN, hSk, hAO, hR, hin⟩ := X
  intro H locs ls hP hD hS hw hlm hl
  subst hst
  subst hR
  have hc1 := hct (Gk D cA ks (as' ++ mo)) l H.size
  have hg : (Gk D cA ks (as' ++ mo)).2.2.1 k = a1 := Gk_at ha
  have hob := lay_obj (G := Gk D cA ks (as' ++ mo)) (σ := σ) hk
  rw [hg] at hob hc1
  refine va_calli (va_runV (As := As) (rest := rest) ⟨hx, hb, hml, hown, hts⟩ hc1 (cwV na hts (gdV w hlk) rfl rfl rfl ⟨rfl, w.2.2.2.2⟩ hR1) ⟨pw_blind, va_recv hK hP hc hob, fun U hU hW => ⟨rfl, by rw [hU], by rw [hU]; exact hP, va_K.moved hW.alike hK, ⟨hD.1, fun _ _ _ => trivial⟩, hw.1, hN.warm hW, hSk.go hS hU hW (aA_in hD hA hS.1)⟩⟩ rfl hna hl.1 rfl (lv_room hrm) hd ⟨hcell.1, hcell.2⟩) hS (fun q _ hq => aA_in hD hA hS.1 q hq) (fun q hq => aA_in hD hA hS.1 q hq) (fun r32 u t H1 locs1 ht hvm hw1 hB hz1 hk1 hS1 => ?_)
  obtain ⟨rfl, hpr⟩ := hw1
  obtain ⟨hP1, hg1⟩ := hB
  rw [ht] at hP1
  exact kk H1 locs1 ls hP1 (lay_D hD) hS1 (hwf hw) hlm hl
theorem at_m {S0 T : List Kd} {o n0 ix : Nat} {d x : Kd} (j : Nat) (h : S0.length = n0) (hx : T[j]? = some x) (hix : n0 + j = ix) : (S0.set o d ++ T)[ix]? = some x := by
  subst hix
  rw [at_more h]
  exact hx
theorem set_m {S0 T T2 Tn : List Kd} {o n0 ix : Nat} {d d1 : Kd} (j : Nat) (h : S0.length = n0) (hix : n0 + j = ix) (hT : T.set j d1 ++ T2 = Tn) : (S0.set o d ++ T).set ix d1 ++ T2 = S0.set o d ++ Tn := by
  subst hix
  rw [List.set_append_right _ _ (by rw [List.length_set]; omega), List.length_set, h, List.append_assoc, ← hT]
  congr 3
  omega
theorem len_m {S0 T : List Kd} {o n0 ix : Nat} {d : Kd} (h : S0.length = n0) (hix : n0 + T.length = ix) : (S0.set o d ++ T).length = ix := by
  rw [List.length_append, List.length_set, h, hix]
def sAdd5 (σ : St) (ro rc : Nat) (i a b c d e : Int) : St := up (up (up (up (up (up σ ro 2 (i + 1)) rc (5 * i) a) rc (5 * i + 1) b) rc (5 * i + 2) c) rc (5 * i + 3) d) rc (5 * i + 4) e
theorem row_add5 {ro rc rn : Nat} {σ : St} {i a b c d e : Int} (hne : rc ≠ ro) (h0 : σ ro 0 = 5) (h2 : σ ro 2 = i) (hi : 0 ≤ i) (hn : (i + 1) * 5 ≤ rn) (hr : rn ≤ 60000) : fX6_add_ ro rc rn a b c d e σ = some (i + 1, sAdd5 σ ro rc i a b c d e) := by
  rw [row_add hne h0 (by omega) (by omega) (by omega) (by omega) hr (by omega), if_neg (by omega), h2]
  unfold rput sAdd5
  rw [cup_t (by decide), cup_t (by decide), cup_t (by decide), cup_t (by decide), cup_t (by decide), show i * 5 = 5 * i by omega]
theorem sAdd5_0 {σ : St} {ro rc : Nat} {i a b c d e : Int} (hne : rc ≠ ro) (h : σ ro 0 = 5) : sAdd5 σ ro rc i a b c d e ro 0 = 5 := by
  have hne' : ro ≠ rc := fun q => hne q.symm
  simp [sAdd5, up_ne hne', up_at, h]
theorem sAdd5_2 {σ : St} {ro rc : Nat} {i a b c d e : Int} (hne : rc ≠ ro) : sAdd5 σ ro rc i a b c d e ro 2 = i + 1 := by
  have hne' : ro ≠ rc := fun q => hne q.symm
  simp [sAdd5, up_ne hne', up_at]
theorem wf_add5 {S : List Kd} {σ : St} {ro rc rn : Nat} {fs : List Nat} {ci : Nat} {i a b c d e : Int} (h : Wf S σ) (h1 : S[ro]? = some (.inr (.inl (ci, fs)))) (h2 : S[rc]? = some (.inl (0, rn))) (hi : rg (i + 1)) (ha : rg a) (hb : rg b) (hc : rg c) (hd : rg d) (he : rg e) : Wf S (sAdd5 σ ro rc i a b c d e) := by
  have g1 : Wf S (up σ ro 2 (i + 1)) := h.up h1 (by rw [kl_obj h1]; exact hi) (h.2.1 ro _ h1)
  have st : ∀ {σ' : St} {k v : Int}, Wf S σ' → rg v → Wf S (up σ' rc k v) := fun g hv => g.up h2 (by rw [kl_int h2]; exact hv) (fun q => by cases q)
  exact st (st (st (st (st g1 ha) hb) hc) hd) he
