/-! the frame: a method's walk over one picture of all its cells -/
abbrev St : Type := Nat → Int → Int
abbrev Rs (β : Type) : Type := Option (β × St)
def Ok {β : Type} (h : Rs β) (K : β → St → Prop) : Prop := ∃ x σ, h = some (x, σ) ∧ K x σ
def up (σ : St) (k : Nat) (i v : Int) : St := fun k' i' => if k' = k ∧ i' = i then v else σ k' i'
def cp (σ : St) (k1 : Nat) (s1 : Int) (k2 : Nat) (s2 n : Int) : St := fun k i => if k = k2 ∧ s2 ≤ i ∧ i < s2 + n then σ k1 (s1 + (i - s2)) else σ k i
def bnd {β γ : Type} (h : Rs β) (k : β → St → Rs γ) : Rs γ := match h with
  | none => none
  | some (x, σ) => k x σ
def bnx {β γ : Type} (h : Rs (β ⊕ γ)) (k : β → St → Rs γ) : Rs γ := match h with
  | none => none
  | some (.inl x, σ) => k x σ
  | some (.inr y, σ) => some (y, σ)
def lod {β : Type} (σ : St) (k n : Nat) (i : Int) (g : Int → Rs β) : Rs β := if 0 ≤ i ∧ i < n then g (σ k i) else none
def sto {β : Type} (σ : St) (k n : Nat) (i v : Int) (g : St → Rs β) : Rs β := if 0 ≤ i ∧ i < n then g (up σ k i v) else none
def stb {β : Type} (σ : St) (k n : Nat) (i v : Int) (g : St → Rs β) : Rs β := if 0 ≤ i ∧ i < n then g (up σ k i v) else none
def fld {β : Type} (σ : St) (k : Nat) (j : Int) (g : Int → Rs β) : Rs β := g (σ k j)
def put {β : Type} (σ : St) (k : Nat) (j v : Int) (g : St → Rs β) : Rs β := g (up σ k j v)
def lb {β : Type} (v : Int) (g : Int → Rs β) : Rs β := g v
def dvc {β : Type} (b : Int) (g : Rs β) : Rs β := if b = 0 then none else g
def loa {β : Type} (ids : List Nat) (i : Int) (g : Nat → Rs β) : Rs β := if 0 ≤ i ∧ i < ids.length then g (ids.getD i.toNat 0) else none
def cpy {β : Type} (σ : St) (k1 n1 : Nat) (sp : Int) (k2 n2 : Nat) (dp n : Int) (g : St → Rs β) : Rs β := if 0 ≤ sp ∧ 0 ≤ dp ∧ 0 ≤ n ∧ sp + n ≤ n1 ∧ dp + n ≤ n2 then g (cp σ k1 sp k2 dp n) else none
def itr {β γ : Type} : Nat → (β → St → Rs (β ⊕ γ)) → β → St → Rs γ
  | 0, _, _, _ => none
  | n + 1, body, x, σ => match body x σ with
    | none => none
    | some (.inl x', σ') => itr n body x' σ'
    | some (.inr y, σ') => some (y, σ')
def FUEL : Nat := 4294967296
def imx (a b : Int) : Int := if a < b then b else a
def imn (a b : Int) : Int := if b < a then b else a
def iab (a : Int) : Int := if 0 ≤ a then a else w32 (0 - a)
theorem ok_some {β : Type} {x : β} {σ : St} {K : β → St → Prop} (o : Ok (some (x, σ)) K) : K x σ := by
  obtain ⟨x', σ', h, k⟩ := o
  cases h
  exact k
theorem ok_of {β : Type} {x : β} {σ : St} {K : β → St → Prop} {h : Rs β} (e : h = some (x, σ)) (k : K x σ) : Ok h K := ⟨x, σ, e, k⟩
theorem ok_if {β : Type} {c : Prop} [Decidable c] {h1 h2 : Rs β} {K : β → St → Prop} (o : Ok (if c then h1 else h2) K) : (c ∧ Ok h1 K) ∨ (¬ c ∧ Ok h2 K) := by
  by_cases hc : c
  · rw [if_pos hc] at o; exact Or.inl ⟨hc, o⟩
  · rw [if_neg hc] at o; exact Or.inr ⟨hc, o⟩
theorem ok_gd {β : Type} {c : Prop} [Decidable c] {h : Rs β} {K : β → St → Prop} (o : Ok (if c then h else none) K) : c ∧ Ok h K := by
  rcases ok_if o with h | ⟨_, x, σ, e, _⟩
  · exact h
  · cases e
theorem ok_bnd {β γ : Type} {h : Rs β} {k : β → St → Rs γ} {K : γ → St → Prop} (o : Ok (bnd h k) K) : ∃ x σ, h = some (x, σ) ∧ Ok (k x σ) K := by
  obtain ⟨y, σ', e, hk⟩ := o
  unfold bnd at e
  split at e
  · cases e
  · next x σ => exact ⟨x, σ, rfl, y, σ', e, hk⟩
theorem z_join {β γ : Type} {h : Rs β} {k : β → St → Rs γ} {K : γ → St → Prop} {P : Prop} (o : Ok (bnd h k) K) (J : β → St → Prop) (hk : ∀ x σ, Ok (k x σ) K → J x σ) (hh : Ok h J → P) : P := by
  obtain ⟨x, σ, e, o'⟩ := ok_bnd o
  exact hh ⟨x, σ, e, hk x σ o'⟩
def Jx {β γ : Type} (J : β → St → Prop) (K : γ → St → Prop) : β ⊕ γ → St → Prop := fun r σ => match r with
  | .inl x => J x σ
  | .inr y => K y σ
theorem z_joix {β γ : Type} {h : Rs (β ⊕ γ)} {k : β → St → Rs γ} {K : γ → St → Prop} {P : Prop} (o : Ok (bnx h k) K) (J : β → St → Prop) (hk : ∀ x σ, Ok (k x σ) K → J x σ) (hh : Ok h (Jx J K) → P) : P := by
  obtain ⟨y, σ', e, hK⟩ := o
  unfold bnx at e
  split at e
  · cases e
  · next x σ => exact hh ⟨.inl x, σ, rfl, hk x σ ⟨y, σ', e, hK⟩⟩
  · next y2 σ => cases e; exact hh ⟨.inr y, σ', rfl, hK⟩
theorem z_itr0 {β γ : Type} {body : β → St → Rs (β ⊕ γ)} {K : γ → St → Prop} (J : β → St → Prop) (hb : ∀ x σ, Ok (body x σ) (Jx J K) → J x σ) : ∀ {N : Nat} {x0 : β} {σ0 : St}, Ok (itr N body x0 σ0) K → J x0 σ0 := by
  intro N
  induction N with
  | zero => intro x0 σ0 o; obtain ⟨y, σ', e, hK⟩ := o; unfold itr at e; cases e
  | succ N ih =>
    intro x0 σ0 o
    obtain ⟨y, σ', e, hK⟩ := o
    unfold itr at e
    split at e
    · cases e
    · next x' σ2 h => exact hb x0 σ0 ⟨.inl x', σ2, h, ih ⟨y, σ', e, hK⟩⟩
    · next y2 σ2 h => cases e; exact hb x0 σ0 ⟨.inr y, σ', h, hK⟩
theorem z_iter {β γ : Type} {body : β → St → Rs (β ⊕ γ)} {K : γ → St → Prop} (J : β → St → Prop) {N : Nat} {x0 : β} {σ0 : St} (o : Ok (itr N body x0 σ0) K) (hb : ∀ x σ, Ok (body x σ) (Jx J K) → J x σ) : J x0 σ0 := z_itr0 J hb o
/-! the picture -/
abbrev Kd : Type := (Nat × Nat) ⊕ (Nat × List Nat) ⊕ List Nat
abbrev Gw : Type := va_G × (Nat → ClassId) × (Nat → Nat) × (Nat → Nat) × (Nat → Nat)
def fv (G : Gw) (f : Int → Int) (j c : Nat) : Value := match c with
  | 0 => .int (pI (f j))
  | 1 => .null
  | q + 2 => .ref (G.2.2.1 q)
def cE (G : Gw) (f : Int → Int) (d : Kd) : va_E := match d with
  | .inl (t, n) => if t = 2 then .inl (G.2.1 2, n, .inr (.inl fun j => pJ (f j))) else if t = 3 then .inl (G.2.1 3, n, .inr (.inr (.inr (.inr fun j => if f j = 0 then none else some (G.2.2.1 (f j).toNat))))) else .inl (G.2.1 t, n, .inl fun j => pI (f j))
  | .inr (.inl (ci, fs)) => .inr (ci, fs.mapIdx (fv G f))
  | .inr (.inr ids) => .inl (G.2.1 3, ids.length, .inr (.inr (.inr (.inr fun j => (ids[j]?).map G.2.2.1))))
def lay (S : List Kd) (G : Gw) (σ : St) : va_W := S.mapIdx fun k d => (G.2.2.1 k, cE G (σ k) d)
theorem lay_at {S : List Kd} {G : Gw} {σ : St} {k : Nat} {d : Kd} (h : S[k]? = some d) : (lay S G σ)[k]? = some (G.2.2.1 k, cE G (σ k) d) := by
  simp [lay, h]
theorem lay_set {S : List Kd} {G : Gw} {σ σ' : St} {k : Nat} {d : Kd} (h : S[k]? = some d) {x : va_E} (hx : x = cE G (σ' k) d) (hs : ∀ k', k' ≠ k → σ' k' = σ k') : (lay S G σ).set k (G.2.2.1 k, x) = lay S G σ' := by
  apply List.ext_getElem?
  intro j
  rw [List.getElem?_set]
  by_cases hj : k = j
  · subst hj
    have hl : k < (lay S G σ).length := by
      have := (List.getElem?_eq_some_iff.mp h).1
      simp [lay, this]
    rw [if_pos rfl, if_pos hl, lay_at h, hx]
  · rw [if_neg hj]
    simp only [lay, List.getElem?_mapIdx]
    rw [hs j (fun q => hj q.symm)]
def tyl (G : Gw) : List (ClassId × FieldType) := [(G.2.1 0, .int), (G.2.1 1, .byte), (G.2.1 2, .long), (G.2.1 3, .object "PorchHours$Houses")]
def kl (S : List Kd) (k : Nat) : Bool := match S[k]? with
  | some (.inl (2, _)) => true
  | _ => false
def Rg (S : List Kd) (σ : St) : Prop := ∀ k i, if kl S k = true then rl (σ k i) else rg (σ k i)
theorem Rg.rg {S : List Kd} {σ : St} (h : Rg S σ) {k : Nat} (hk : kl S k = false) (i : Int) : rg (σ k i) := by
  have := h k i
  rwa [if_neg (by rw [hk]; decide)] at this
theorem Rg.rl {S : List Kd} {σ : St} (h : Rg S σ) {k : Nat} (hk : kl S k = true) (i : Int) : rl (σ k i) := by
  have := h k i
  rwa [if_pos hk] at this
theorem Rg.up {S : List Kd} {σ : St} (h : Rg S σ) {k : Nat} {i v : Int} (hv : if kl S k = true then _root_.Jvm.Pilot.@@N@@.rl v else _root_.Jvm.Pilot.@@N@@.rg v) : Rg S (up σ k i v) := by
  intro k' i'
  unfold Jvm.Pilot.@@N@@.up
  by_cases hc : k' = k ∧ i' = i
  · rw [if_pos hc]
    rw [hc.1]
    exact hv
  · rw [if_neg hc]
    exact h k' i'
theorem kl_int {S : List Kd} {k n : Nat} (h : S[k]? = some (.inl (0, n))) : kl S k = false := by unfold kl; rw [h]; rfl
theorem kl_byte {S : List Kd} {k n : Nat} (h : S[k]? = some (.inl (1, n))) : kl S k = false := by unfold kl; rw [h]; rfl
theorem kl_long {S : List Kd} {k n : Nat} (h : S[k]? = some (.inl (2, n))) : kl S k = true := by unfold kl; rw [h]; rfl
theorem kl_obj {S : List Kd} {k : Nat} {x : Nat × List Nat} (h : S[k]? = some (.inr (.inl x))) : kl S k = false := by unfold kl; rw [h]
def aA (S : List Kd) (G : Gw) (sz : Nat) : Nat → Prop := fun q => (∃ k, k < S.length ∧ q = G.2.2.1 k) ∨ sz ≤ q
/-! the words -/
theorem tbG {ws : List Cond} (h : ∀ w ∈ ws, w ∈ tbl) : GoodIn tbl ws := fun w hw => ⟨h w hw, good_of_word (List.mem_filter.mp (h w hw)).2⟩
def Nws (U : State) : Prop := ∀ w ∈ nst, va_Nw w U
theorem Nws.warm {s U : State} (hW : s.WarmedH U.vm) (h : Nws s) : Nws U := by
  intro w hw
  have h1 := h w hw
  have h2 := (List.mem_filter.mp hw).2
  unfold isN at h2
  split at h2
  · exact va_Nw.warmF hW h1
  · exact va_Nw.warmM hW h1
  · cases h2
theorem Nws.same {u U : State} (hv : u.vm = U.vm) (h : Nws u) : Nws U := by
  intro w hw
  have h1 := h w hw
  have h2 := (List.mem_filter.mp hw).2
  unfold isN at h2
  split at h2
  · exact va_Nw.same rfl hv h1
  · exact va_Nw.same rfl hv h1
  · cases h2
theorem Nws.of {U : State} {A : Array Value} (h : ∀ w ∈ lw_tbl, w.before A U = true) : Nws U := by
  intro w hw
  have h1 := h w (List.mem_filter.mp hw).1
  have h2 := (List.mem_filter.mp hw).2
  unfold isN at h2
  split at h2
  · exact va_Nw.of rfl h1
  · exact va_Nw.of rfl h1
  · cases h2
def strT : List (Nat × String) := [(70, "speaks"), (76, "hears"), (78, "spins"), (80, "when"), (82, "or"), (84, "and"), (86, "not"), (88, "person"), (90, "at"), (91, "on"), (93, "for"), (95, "in"), (97, "oil"), (99, "sweep"), (101, "rain"), (103, "master"), (105, "porch"), (107, "by"), (112, "tongue"), (114, "ears"), (116, "sitting"), (118, "stayed"), (120, "lamp"), (122, "cobweb"), (124, "minute"), (126, "said"), (128, "heard"), (130, "evening")]
def strL : List Nat := [6, 5, 5, 4, 2, 3, 3, 6, 2, 2, 3, 2, 3, 5, 4, 6, 5, 2, 6, 4, 7, 6, 4, 6, 6, 4, 5, 7]
def strB : List (List Int32) := [[115, 112, 101, 97, 107, 115], [104, 101, 97, 114, 115], [115, 112, 105, 110, 115], [119, 104, 101, 110], [111, 114], [97, 110, 100], [110, 111, 116], [112, 101, 114, 115, 111, 110], [97, 116], [111, 110], [102, 111, 114], [105, 110], [111, 105, 108], [115, 119, 101, 101, 112], [114, 97, 105, 110], [109, 97, 115, 116, 101, 114], [112, 111, 114, 99, 104], [98, 121], [116, 111, 110, 103, 117, 101], [101, 97, 114, 115], [115, 105, 116, 116, 105, 110, 103], [115, 116, 97, 121, 101, 100], [108, 97, 109, 112], [99, 111, 98, 119, 101, 98], [109, 105, 110, 117, 116, 101], [115, 97, 105, 100], [104, 101, 97, 114, 100], [101, 118, 101, 110, 105, 110, 103]]
def strW : List (List Int) := [[115, 112, 101, 97, 107, 115], [104, 101, 97, 114, 115], [115, 112, 105, 110, 115], [119, 104, 101, 110], [111, 114], [97, 110, 100], [110, 111, 116], [112, 101, 114, 115, 111, 110], [97, 116], [111, 110], [102, 111, 114], [105, 110], [111, 105, 108], [115, 119, 101, 101, 112], [114, 97, 105, 110], [109, 97, 115, 116, 101, 114], [112, 111, 114, 99, 104], [98, 121], [116, 111, 110, 103, 117, 101], [101, 97, 114, 115], [115, 105, 116, 116, 105, 110, 103], [115, 116, 97, 121, 101, 100], [108, 97, 109, 112], [99, 111, 98, 119, 101, 98], [109, 105, 110, 117, 116, 101], [115, 97, 105, 100], [104, 101, 97, 114, 100], [101, 118, 101, 110, 105, 110, 103]]
/-- the text constants and the JDK's two statics: cells that no method here changes -/
def Sk (A : Nat → Prop) (G : Gw) (U : State) : Prop := vk_S 28 strL strB G.2.2.2.1 G.2.2.2.2 A U U.heap ∧ (∀ (i : Nat) (q : Nat × String), strT[i]? = some q → vk_R "PorchHours$Tokens" q.1 q.2 (G.2.2.2.1 i) U) ∧ va_Z "java/lang/String" "COMPACT_STRINGS" "Z" (.int 1) A U U.heap ∧ va_Zq "jdk/internal/util/Preconditions" "SIOOBE_FORMATTER" "Ljava/util/function/BiFunction;" A U U.heap
theorem Sk.go {A B : Nat → Prop} {G : Gw} {s U : State} {H : Heap} {locs : List Loc} (h : Sk A G s) (hS : va_S A s.heap H locs) (hU : U.heap = H) (hW : s.WarmedH U.vm) (hAB : ∀ q, B q → A q) : Sk B G U := by
  subst hU
  obtain ⟨h1, h2, h3, h4⟩ := h
  exact ⟨((h1.kept hS.2.1).moved hW.alike).narrow hAB, fun i q hq => (h2 i q hq).warm hW, ((h3.kept hS.2.1).moved hW.alike).narrow hAB, ((h4.kept hS.2.1).moved hW.alike).narrow hAB⟩
theorem Sk.same {A : Nat → Prop} {G : Gw} {u U : State} (hv : U.vm = u.vm) (hh : U.heap = u.heap) (h : Sk A G u) : Sk A G U := by
  obtain ⟨h1, h2, h3, h4⟩ := h
  have ha : u.vm.Alike U.vm := by rw [hv]; exact Vm.Alike.refl u.vm
  exact ⟨by rw [hh]; exact h1.moved ha, fun i q hq => (h2 i q hq).same hv, by rw [hh]; exact h3.moved ha, by rw [hh]; exact h4.moved ha⟩
def wY (y : MethodName) (b : ByteArray) (n : Nat) (ret : Option FieldType) : List Cond := .code y b n ret :: tbl
abbrev ET : Type := Program × Launch × Env × Room × State × MethodId × Array Value × List Frame × Method × Code × (State → Prop) × List Kd × Gw × Nat
def At (E : ET) (σ : St) (pc : Nat) (L : List (Nat × Value)) (st : List Value) : Prop := match E with
  | (p, l, e, R, s, m, args, below, meth, c, Q, S, G, n) => ∀ (H : Heap) (locs : List Loc) (ls : Array Slot), va_P G.1 vwCl (lay S G σ) H → va_S (aA S G s.heap.size) s.heap H locs → Rg S σ → lv_has ls n L → W p l e R s m args below meth c H locs 0 0 Q (F0 m pc ls st)
def Cx (E : ET) (cc : ByteArray) (own : String) (S : List Kd) (G : Gw) (n fr lo : Nat) : Prop := match E with
  | (p, l, e, R, s, m, args, below, meth, c, Q, S', G', n') => S' = S ∧ G' = G ∧ n' = n ∧ p.tables.exec = Jvm.exec ∧ c.code = cc ∧ c.maxLocals = n ∧ s.vm.findClass own = some m.cls ∧ (∀ w ∈ tbl, w.before args s = true) ∧ va_K G.1 vwCl (tyl G) s ∧ (∀ σ, va_D (aA S G s.heap.size) (lay S G σ)) ∧ Nws s ∧ Sk (aA S G s.heap.size) G s ∧ R = { frames := fr, cells := 0, slots := 0, locals := lo }
def Rt (E : ET) (S : List Kd) (G : Gw) (ret : Option FieldType) (Qf : (Nat → Prop) → Array Value → State → Outcome → State → Prop) : Prop := match E with
  | (p, l, e, R, s, m, args, below, meth, c, Q, S', G', n') => Q = MQ below (Qf (aA S G s.heap.size)) args s 0 0 (aA S G s.heap.size) ∧ meth.sig.returnType = ret ∧ meth.locks = false
def Pw (S : List Kd) (G : Gw) (σ : St) (sz : Nat) (U : State) : Prop := U.heap.size = sz ∧ va_P G.1 vwCl (lay S G σ) U.heap ∧ va_K G.1 vwCl (tyl G) U ∧ va_D (fun _ => True) (lay S G σ) ∧ Rg S σ ∧ Nws U ∧ Sk (aA S G sz) G U
def QI (S : List Kd) (G : Gw) (r : Int) (pr : Int → Prop) (σ1 : St) (A : Nat → Prop) : Array Value → State → Outcome → State → Prop := va_Qi (S := Unit) (fun q _ => q = pI r ∧ pr r) (fun _ t => va_P G.1 vwCl (lay S G σ1) t.heap ∧ Rg S σ1) A
def QV (S : List Kd) (G : Gw) (σ1 : St) (A : Nat → Prop) : Array Value → State → Outcome → State → Prop := va_Qv (S := Unit) (fun _ => True) (fun _ t => va_P G.1 vwCl (lay S G σ1) t.heap ∧ Rg S σ1) A
def QR (S : List Kd) (G : Gw) (r : Int) (pr : Int → Prop) (σ1 : St) (A : Nat → Prop) : Array Value → State → Outcome → State → Prop := va_Qr (S := Unit) (fun _ => pr r) (fun _ a t => a = G.2.2.1 r.toNat ∧ va_P G.1 vwCl (lay S G σ1) t.heap ∧ Rg S σ1) A
/-- a method's contract: from the picture of σ0 to the picture of σ1 -/
def Ct (y : MethodName) (b : ByteArray) (n : Nat) (ret : Option FieldType) (fr lo : Nat) (S : List Kd) (G : Gw) (as : List Value) (σ0 : St) (Qf : (Nat → Prop) → Array Value → State → Outcome → State → Prop) : Prop :=
  ∀ (l : Launch) (sz : Nat), Met l y (wY y b n ret) { frames := fr, cells := 0, slots := 0, locals := lo } (va_Pc as (Pw S G σ0 sz)) (Qf (aA S G sz)) 0 0 (aA S G sz)
theorem lay_D {S : List Kd} {G : Gw} {σ σ' : St} {A : Nat → Prop} (h : va_D A (lay S G σ)) : va_D A (lay S G σ') := by
  have key : ∀ (k : Nat) (q : Nat × va_E), (lay S G σ')[k]? = some q → ∃ q', (lay S G σ)[k]? = some q' ∧ q'.1 = q.1 := by
    intro k q hq
    simp only [lay, List.getElem?_mapIdx] at hq ⊢
    cases hS : S[k]? with
    | none => rw [hS] at hq; cases hq
    | some d => rw [hS] at hq; cases hq; exact ⟨_, rfl, rfl⟩
  refine ⟨fun i j p q hi hj hpq => ?_, fun k q hk => ?_⟩
  · obtain ⟨p', hp, ep⟩ := key i p hi
    obtain ⟨q', hq, eq⟩ := key j q hj
    exact h.1 i j p' q' hp hq (by rw [ep, eq, hpq])
  · obtain ⟨q', hq, eq⟩ := key k q hk
    rw [← eq]
    exact h.2 k q' hq
theorem lay_A {S : List Kd} {G : Gw} {σ : St} {sz k : Nat} {q : Nat × va_E} (h : (lay S G σ)[k]? = some q) : aA S G sz q.1 := by
  simp only [lay, List.getElem?_mapIdx] at h
  cases hS : S[k]? with
  | none => rw [hS] at h; cases h
  | some d => rw [hS] at h; cases h; exact Or.inl ⟨k, (List.getElem?_eq_some_iff.mp hS).1, rfl⟩
theorem Ct.of {y : MethodName} {b : ByteArray} {n : Nat} {ret : Option FieldType} {fr lo : Nat} {S : List Kd} {G : Gw} {as : List Value} {σ0 : St} {Qf : (Nat → Prop) → Array Value → State → Outcome → State → Prop}
    (hy : plainName y.cls = true) (hn : (lg_sl as).length ≤ n) (body : ∀ E : ET, Cx E b y.cls S G n fr lo → Rt E S G ret Qf → At E σ0 0 (lv_args 0 as) []) : Ct y b n ret fr lo S G as σ0 Qf := by
  intro l sz
  refine Met.ofW (cc := b) (maxL := n) (ret := ret) hy rfl ?_
  intro p e s m args below meth c s₁ B hml hv
  obtain ⟨rfl, rfl, hP, hK, hD0, hg, hN, hSk⟩ := hv
  have hts := atoms_spec (ws := wY y b n ret) B.pre
  have hD : ∀ σ, va_D (aA S G s.heap.size) (lay S G σ) := fun σ => ⟨(lay_D hD0).1, fun _ _ hk => lay_A hk⟩
  have hl := lv_entry as (n := n) hn
  rw [lg_entry_eq]
  exact body (p, l, e, _, s, m, _, below, meth, c, _, S, G, n) ⟨rfl, rfl, rfl, B.exec, B.bytes, hml, findClass_of_methodNamed B.named, fun w hw => hts w (List.mem_cons_of_mem _ hw), hK, hD, hN, hSk, rfl⟩ ⟨rfl, B.returns, B.notSynchronized⟩ s.heap [] _ hP va_S.rf hg hl
