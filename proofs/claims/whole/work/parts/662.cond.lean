/-! TEXT: conditions; what waits -/
def opn : List Int → Int
  | [] => 0
  | x :: S => opn S + if x = 40 ∨ x = 266 then 1 else 0
def stkA (A : Int → Int) : List Int → Prop
  | [] => True
  | x :: S => A S.length = x ∧ stkA A S
def hdS : List Int → Int
  | [] => 0
  | x :: _ => x
/-- what may wait above what -/
def VS : List Int → Prop
  | [] => True
  | x :: S => VS S ∧ (x = 40 ∨ x = 266 ∨ (x = 265 ∧ (hdS S = 0 ∨ hdS S = 40 ∨ hdS S = 264)) ∨ (x = 264 ∧ (hdS S = 0 ∨ hdS S = 40)))
def sgk (x : Int) : Int := if x = 266 then 9 else if x = 265 then 10 else 11
def popS (p : Int) : List Int → List Int
  | [] => []
  | x :: S => if p ≤ x then popS p S else x :: S
def popE (p : Int) : List Int → Cd
  | [] => []
  | x :: S => if p ≤ x then (sgk x, 0) :: popE p S else []
theorem popS_c {p x : Int} {S : List Int} : popS p (x :: S) = if p ≤ x then popS p S else x :: S := rfl
theorem popE_c {p x : Int} {S : List Int} : popE p (x :: S) = if p ≤ x then (sgk x, 0) :: popE p S else [] := rfl
theorem stk_cong {A B : Int → Int} : ∀ {S : List Int}, stkA A S → (∀ i, 0 ≤ i → i < S.length → B i = A i) → stkA B S := by
  intro S
  induction S with
  | nil => intro _ _; trivial
  | cons x S ih =>
    intro h hb
    rw [List.length_cons] at hb
    exact ⟨(hb _ (by omega) (by omega)).trans h.1, ih h.2 fun i i0 i1 => hb i i0 (by omega)⟩
theorem opn_0 : ∀ {S : List Int}, 0 ≤ opn S := by
  intro S
  induction S with
  | nil => exact Int.le_refl _
  | cons x S ih => unfold opn; split <;> omega
theorem VS.len : ∀ {S : List Int}, VS S → (S.length : Int) ≤ 3 * opn S + (if hdS S = 265 then 2 else if hdS S = 264 then 1 else 0) := by
  intro S
  induction S with
  | nil => intro _; decide
  | cons x S ih =>
    intro h
    have a := ih h.1
    rw [List.length_cons]
    unfold opn
    show _ ≤ _ + (if x = 265 then 2 else if x = 264 then 1 else 0)
    rcases h.2 with q | q | ⟨q, z⟩ | ⟨q, z⟩ <;> subst q
    · rw [if_pos (Or.inl rfl)]
      repeat' split at a
      all_goals (simp only [show ¬ (40 : Int) = 265 by decide, show ¬ (40 : Int) = 264 by decide, if_false]; omega)
    · rw [if_pos (Or.inr rfl)]
      repeat' split at a
      all_goals (simp only [show ¬ (266 : Int) = 265 by decide, show ¬ (266 : Int) = 264 by decide, if_false]; omega)
    · rw [if_neg (by decide), if_pos rfl]
      repeat' split at a
      all_goals omega
    · rw [if_neg (by decide), if_neg (by decide), if_pos rfl]
      repeat' split at a
      all_goals omega
theorem VS.len26 {S : List Int} (h : VS S) (o : opn S ≤ 8) : (S.length : Int) ≤ 26 := by
  have a := h.len
  repeat' split at a
  all_goals omega
theorem VS.pop {p : Int} : ∀ {S : List Int}, VS S → VS (popS p S) := by
  intro S
  induction S with
  | nil => intro h; exact h
  | cons x S ih =>
    intro h
    unfold popS
    split
    · exact ih h.1
    · exact h
theorem pop_len {p : Int} : ∀ {S : List Int}, (popS p S).length + (popE p S).length = S.length := by
  intro S
  induction S with
  | nil => rfl
  | cons x S ih =>
    unfold popS popE
    split
    · simp only [List.length_cons]; omega
    · rfl
theorem pop_opn {p : Int} : ∀ {S : List Int}, opn (popS p S) ≤ opn S := by
  intro S
  induction S with
  | nil => exact Int.le_refl _
  | cons x S ih =>
    unfold popS
    split
    · have a : opn (x :: S) = opn S + if x = 40 ∨ x = 266 then 1 else 0 := rfl
      rw [a]
      split <;> omega
    · exact Int.le_refl _
theorem pop_hd {p : Int} (hp : 0 < p) : ∀ {S : List Int}, hdS (popS p S) < p := by
  intro S
  induction S with
  | nil => exact hp
  | cons x S ih =>
    unfold popS
    split
    · exact ih
    · show x < p; omega
theorem VS.hd {S : List Int} (h : VS S) : hdS S = 0 ∧ S = [] ∨ hdS S = 40 ∨ hdS S = 264 ∨ hdS S = 265 ∨ hdS S = 266 := by
  cases S with
  | nil => exact Or.inl ⟨rfl, rfl⟩
  | cons x S =>
    have a := h.2
    show x = 0 ∧ x :: S = [] ∨ x = 40 ∨ x = 264 ∨ x = 265 ∨ x = 266
    omega
def pC : Nat → Bool → List Int → List Tk → Cd → Re
  | f + 1, true, S, t :: M, acc => if t.1 = 40 ∨ t.1 = 266 then (if opn S = 8 then .inl (3, t :: M) else pC f true (t.1 :: S) M acc)
      else match pC0 (t :: M) acc with
        | .inl x => .inl x
        | .inr (L1, a1) => pC f false (popS 266 S) L1 (a1 ++ popE 266 S)
  | f + 1, false, S, t :: M, acc => if t.1 = 265 ∨ t.1 = 264 then pC f true (t.1 :: popS t.1 S) M (acc ++ popE t.1 S)
      else match popS 264 S with
        | [] => if t.1 = 41 then .inl (1, t :: M) else .inr (t :: M, acc ++ popE 264 S)
        | _ :: S2 => if t.1 = 41 then pC f false (popS 266 S2) M (acc ++ popE 264 S ++ popE 266 S2) else .inl (1, t :: M)
  | _, _, _, L, _ => .inl (1, L)
/-! the class -/
def XK (σ : St) (S : List Int) : Prop := σ 139 5 = S.length ∧ σ 139 6 = opn S ∧ stkA (σ 144) S
theorem XK.fr {σ σ' : St} {D : List Nat} {S : List Int} (h : XK σ S) (f : Fr D σ σ') (d : D.contains 139 = false ∧ D.contains 144 = false) : XK σ' S := by
  have d1 : 139 ∉ D := by simpa using d.1
  have d2 : 144 ∉ D := by simpa using d.2
  unfold XK
  rw [f 139 d1, f 144 d2]
  exact h
/-- the fault's cells stay -/
def K78 (σ σ' : St) : Prop := σ' 139 7 = σ 139 7 ∧ σ' 139 8 = σ 139 8
theorem K78.fr {σ σ' : St} {D : List Nat} (f : Fr D σ σ') (d : D.contains 139 = false) : K78 σ σ' := by
  have d1 : 139 ∉ D := by simpa using d
  unfold K78
  rw [f 139 d1]
  exact ⟨rfl, rfl⟩
theorem K78.tr {σ s1 s2 : St} (h : K78 σ s1) (h2 : K78 s1 s2) : K78 σ s2 := ⟨h2.1.trans h.1, h2.2.trans h.2⟩
theorem K78.rf {σ : St} : K78 σ σ := ⟨rfl, rfl⟩
theorem x_down {p : Int} (hp : 41 ≤ p) : ∀ {S : List Int} {σ : St} {acc : Cd}, XK σ S → XC σ acc → VS S → acc.length + S.length ≤ 400 → S.length ≤ 28 → opn S ≤ 8 → Ok (fX5_noteDown p σ) fun _ σ' => Fr [139, 142, 143] σ σ' ∧ K78 σ σ' ∧ XK σ' (popS p S) ∧ XC σ' (acc ++ popE p S) := by
  intro S σ acc hk hc hv hl hl2 ho
  unfold fX5_noteDown
  rw [ko_bnd]
  refine cnt_ok (fun k _ s => ∃ T a, XK s T ∧ XC s a ∧ VS T ∧ a.length + T.length ≤ 400 ∧ T.length ≤ 28 ∧ opn T ≤ 8 ∧ Fr [139, 142, 143] σ s ∧ K78 σ s ∧ popS p T = popS p S ∧ a ++ popE p T = acc ++ popE p S ∧ k = T.length) S.length ⟨S, acc, hk, hc, hv, hl, hl2, ho, Fr.rf, K78.rf, rfl, rfl, rfl⟩ (by omega) ?_
  rintro k _ s ⟨T, a, ⟨k1, k2, k3⟩, hc, hv, hl, hl2, ho, f, k78, eS, eE, rfl⟩
  rw [fld_eq]
  cases T with
  | nil =>
    rw [if_neg (by rw [k1]; decide)]
    refine ok_ret (show Ok _ _ from ok_ret ⟨f, k78, ?_, ?_⟩)
    · rw [← eS]; exact ⟨k1, k2, k3⟩
    · rw [← eE]; unfold popE; rw [List.append_nil]; exact hc
  | cons x T =>
    rw [List.length_cons] at k1 hl hl2
    have o0 := opn_0 (S := T)
    have eo : opn (x :: T) = opn T + if x = 40 ∨ x = 266 then 1 else 0 := rfl
    have kx : s 144 (s 139 5 - 1) = x := by rw [show s 139 5 - 1 = (T.length : Int) by omega]; exact k3.1
    rw [if_pos (by omega), fld_eq, w32_sm (by omega), lod_eq (by omega), kx]
    rw [popS_c] at eS
    rw [popE_c] at eE
    by_cases g : x < p
    · rw [if_pos g]
      rw [if_neg (by omega)] at eS eE
      refine ok_ret (show Ok _ _ from ok_ret ⟨f, k78, ?_, ?_⟩)
      · rw [← eS]; exact ⟨by rw [List.length_cons]; exact k1, k2, k3⟩
      · rw [← eE, List.append_nil]; exact hc
    · rw [if_neg g, fld_eq, put_eq, w32_sm (by omega), fld_eq]
      rw [if_pos (by omega)] at eS eE
      have e5 : up s 139 5 (s 139 5 - 1) 139 5 = s 139 5 - 1 := rfl
      rw [e5, lod_eq (by omega), show up s 139 5 (s 139 5 - 1) 144 (s 139 5 - 1) = x from kx]
      have xr : x = 266 ∨ x = 265 ∨ x = 264 := by have := hv.2; omega
      have fin : ∀ s2, Fr [139] s s2 → K78 s s2 → s2 139 5 = s 139 5 - 1 → s2 139 6 = opn T → Ok (fld s2 139 5 fun v23 => lod s2 144 28 v23 fun v25 => bnd (fX6_add 142 143 400 (w32 (-v25)) s2) fun r27 s28 => some (.inl (), s28)) (Jx (fun (_ : Unit) s => ∃ k', k' < (x :: T).length ∧ ∃ T a, XK s T ∧ XC s a ∧ VS T ∧ a.length + T.length ≤ 400 ∧ T.length ≤ 28 ∧ opn T ≤ 8 ∧ Fr [139, 142, 143] σ s ∧ K78 σ s ∧ popS p T = popS p S ∧ a ++ popE p T = acc ++ popE p S ∧ k' = T.length) fun (_ : Unit) s => Ok (some ((0 : Int), s)) fun _ σ' => Fr [139, 142, 143] σ σ' ∧ K78 σ σ' ∧ XK σ' (popS p S) ∧ XC σ' (acc ++ popE p S)) := by
        intro s2 f2 k2' h5 h6
        have kx2 : s2 144 (s 139 5 - 1) = x := by rw [f2 144 (by decide)]; exact kx
        rw [fld_eq, h5, lod_eq (by omega), kx2]
        obtain ⟨r, s3, e3, f3, c3⟩ := x_emit (v := w32 (-x)) (o := sgk x) (a := 0) (hc.fr f2 (by decide)) (by omega) (by rcases xr with q | q | q <;> rw [q] <;> decide)
        rw [e3, bnd_some]
        refine ok_ret ⟨T.length, by rw [List.length_cons]; omega, T, _, ?_, c3, hv.1, by rw [List.length_append, List.length_singleton]; omega, by omega, by rw [eo] at ho; split at ho <;> omega, (f.tr (f2.mono (by decide))).tr (f3.mono (by decide)), (k78.tr k2').tr (K78.fr f3 (by decide)), eS, by rw [List.append_assoc]; exact eE, rfl⟩
        refine XK.fr ?_ f3 (by decide)
        refine ⟨by rw [h5]; omega, h6, ?_⟩
        rw [f2 144 (by decide)]
        exact k3.2
      by_cases n6 : x = 266
      · rw [if_pos n6, fld_eq, put_eq]
        have e6 : up s 139 5 (s 139 5 - 1) 139 6 = opn (x :: T) := k2
        rw [e6, eo, if_pos (Or.inr n6)]
        rw [eo, if_pos (Or.inr n6)] at ho
        rw [w32_sm (by omega), bnd_some]
        exact fin _ ((Fr.rf.up (by decide)).up (by decide)) ⟨rfl, rfl⟩ rfl (by show opn T + 1 - 1 = opn T; omega)
      · rw [if_neg n6, bnd_some]
        refine fin _ (Fr.rf.up (by decide)) ⟨rfl, rfl⟩ rfl ?_
        show s 139 6 = opn T
        rw [k2, eo, if_neg (by omega)]; omega
