/-! TEXT: lines of tokens that must come; the class -/
abbrev R2 := (Int × List Tk) ⊕ (Ln × List Tk)
def tkW (k : Int) (L : List Tk) (g : List Tk → R2) : R2 := match L with
  | t :: M => if t.1 = k then g M else .inl (1, t :: M)
  | [] => .inl (1, [])
def tkN (l h x : Int) (L : List Tk) (g : Int → List Tk → R2) : R2 := match L with
  | t :: M => if nft t l h x = 0 then g t.2.1 M else .inl (nft t l h x, t :: M)
  | [] => .inl (1, [])
def tkD (L : List Tk) (g : Int → List Tk → R2) : R2 := match L with
  | t :: M => if 285 ≤ t.1 ∧ t.1 ≤ 288 then g t.1 M else .inl (1, t :: M)
  | [] => .inl (1, [])
def tkE (l : Ln) (L : List Tk) : R2 := tkW 59 L fun M => .inr (l, M)
def pCall (P Q : Int) (L : List Tk) : R2 := tkN 0 (P - 1) (-1) L fun a L => tkW 281 L fun L => tkN 0 59 (-1) L fun b L => tkW 282 L fun L => tkN 0 (Q - 1) (-1) L fun c L => tkW 283 L fun L => tkN 1 60 (-1) L fun d L => tkE (a, b, c, d) L
def pDeed (P Q : Int) (L : List Tk) : R2 := tkN 0 999 (-1) L fun a L => tkD L fun k L => tkN 0 (if k = 287 then 59 else Q - 1) (-1) L fun c L =>
  if k = 285 then tkN 0 99 (-1) L fun d L => tkE (a, k, c, d) L else if k = 288 then tkN 0 (P - 1) (-1) L fun d L => tkE (a, k, c, d) L else tkE (a, k, c, 0) L
def pRoad (Q : Int) (L : List Tk) : R2 := tkN 0 (Q - 1) (-1) L fun a L => tkW 290 L fun L => tkN 0 (Q - 1) a L fun b L => tkN 1 99 (-1) L fun d L => tkE (a, b, d, 0) L
theorem tkW_inr {k : Int} {L : List Tk} {g : List Tk → R2} {x : Ln × List Tk} (h : tkW k L g = .inr x) : ∃ t M, L = t :: M ∧ t.1 = k ∧ g M = .inr x := by
  cases L with
  | nil => cases h
  | cons t M =>
    have h : (if t.1 = k then g M else .inl (1, t :: M)) = .inr x := h
    by_cases e : t.1 = k
    · rw [if_pos e] at h; exact ⟨t, M, rfl, e, h⟩
    · rw [if_neg e] at h; cases h
theorem tkN_inr {l h' y : Int} {L : List Tk} {g : Int → List Tk → R2} {x : Ln × List Tk} (h : tkN l h' y L g = .inr x) : ∃ t M, L = t :: M ∧ (l ≤ t.2.1 ∧ t.2.1 ≤ h' ∧ t.2.1 ≠ y) ∧ g t.2.1 M = .inr x := by
  cases L with
  | nil => cases h
  | cons t M =>
    have h : (if nft t l h' y = 0 then g t.2.1 M else .inl (nft t l h' y, t :: M)) = .inr x := h
    by_cases e : nft t l h' y = 0
    · rw [if_pos e] at h
      refine ⟨t, M, rfl, ?_, h⟩
      unfold nft at e
      by_cases k : t.1 = 257
      · rw [if_pos k] at e
        by_cases b : l ≤ t.2.1 ∧ t.2.1 ≤ h' ∧ t.2.1 ≠ y
        · exact b
        · rw [if_neg b] at e; cases e
      · rw [if_neg k] at e; cases e
    · rw [if_neg e] at h; cases h
theorem tkD_inr {L : List Tk} {g : Int → List Tk → R2} {x : Ln × List Tk} (h : tkD L g = .inr x) : ∃ t M, L = t :: M ∧ (285 ≤ t.1 ∧ t.1 ≤ 288) ∧ g t.1 M = .inr x := by
  cases L with
  | nil => cases h
  | cons t M =>
    have h : (if 285 ≤ t.1 ∧ t.1 ≤ 288 then g t.1 M else .inl (1, t :: M)) = .inr x := h
    by_cases e : 285 ≤ t.1 ∧ t.1 ≤ 288
    · rw [if_pos e] at h; exact ⟨t, M, rfl, e, h⟩
    · rw [if_neg e] at h; cases h
theorem tkE_inr {l l' : Ln} {L M' : List Tk} (h : tkE l L = .inr (l', M')) : l' = l ∧ M'.length + 1 = L.length := by
  obtain ⟨t, M, rfl, _, h⟩ := tkW_inr h
  cases h
  exact ⟨rfl, by rw [List.length_cons]⟩
theorem pCall_in {P Q : Int} {L M : List Tk} {l : Ln} (h : pCall P Q L = .inr (l, M)) : M.length < L.length ∧ 0 ≤ l.1 ∧ l.1 ≤ P - 1 ∧ 0 ≤ l.2.2.1 ∧ l.2.2.1 ≤ Q - 1 := by
  obtain ⟨t1, M1, rfl, b1, h⟩ := tkN_inr h
  obtain ⟨t2, M2, rfl, _, h⟩ := tkW_inr h
  obtain ⟨t3, M3, rfl, b3, h⟩ := tkN_inr h
  obtain ⟨t4, M4, rfl, _, h⟩ := tkW_inr h
  obtain ⟨t5, M5, rfl, b5, h⟩ := tkN_inr h
  obtain ⟨t6, M6, rfl, _, h⟩ := tkW_inr h
  obtain ⟨t7, M7, rfl, b7, h⟩ := tkN_inr h
  obtain ⟨rfl, e⟩ := tkE_inr h
  simp only [List.length_cons]
  exact ⟨by omega, b1.1, b1.2.1, b5.1, b5.2.1⟩
theorem pDeed_in {P Q : Int} {L M : List Tk} {l : Ln} (h : pDeed P Q L = .inr (l, M)) : M.length < L.length ∧ (285 ≤ l.2.1 ∧ l.2.1 ≤ 288) ∧ 0 ≤ l.2.2.1 ∧ (l.2.1 ≠ 287 → l.2.2.1 ≤ Q - 1) ∧ (l.2.1 = 285 → 0 ≤ l.2.2.2 ∧ l.2.2.2 ≤ 99) ∧ (l.2.1 = 288 → 0 ≤ l.2.2.2 ∧ l.2.2.2 ≤ P - 1) := by
  obtain ⟨t1, M1, rfl, b1, h⟩ := tkN_inr h
  obtain ⟨t2, M2, rfl, b2, h⟩ := tkD_inr h
  obtain ⟨t3, M3, rfl, b3, h⟩ := tkN_inr h
  obtain ⟨b30, b31, _⟩ := b3
  by_cases k5 : t2.1 = 285
  · rw [if_pos k5] at h
    obtain ⟨t4, M4, rfl, b4, h⟩ := tkN_inr h
    obtain ⟨rfl, e⟩ := tkE_inr h
    simp only [List.length_cons]
    rw [if_neg (by omega)] at b31
    exact ⟨by omega, b2, b30, fun _ => b31, fun _ => ⟨b4.1, b4.2.1⟩, fun q => by omega⟩
  · rw [if_neg k5] at h
    by_cases k8 : t2.1 = 288
    · rw [if_pos k8] at h
      obtain ⟨t4, M4, rfl, b4, h⟩ := tkN_inr h
      obtain ⟨rfl, e⟩ := tkE_inr h
      simp only [List.length_cons]
      rw [if_neg (by omega)] at b31
      exact ⟨by omega, b2, b30, fun _ => b31, fun q => by omega, fun _ => ⟨b4.1, b4.2.1⟩⟩
    · rw [if_neg k8] at h
      obtain ⟨rfl, e⟩ := tkE_inr h
      simp only [List.length_cons]
      refine ⟨by omega, b2, b30, fun q => ?_, fun q => absurd q k5, fun q => absurd q k8⟩
      rw [if_neg q] at b31
      exact b31
theorem pRoad_in {Q : Int} {L M : List Tk} {l : Ln} (h : pRoad Q L = .inr (l, M)) : M.length < L.length ∧ 0 ≤ l.1 ∧ l.1 ≤ Q - 1 ∧ 0 ≤ l.2.1 ∧ l.2.1 ≤ Q - 1 ∧ l.1 ≠ l.2.1 ∧ 1 ≤ l.2.2.1 ∧ l.2.2.1 ≤ 99 := by
  obtain ⟨t1, M1, rfl, b1, h⟩ := tkN_inr h
  obtain ⟨t2, M2, rfl, _, h⟩ := tkW_inr h
  obtain ⟨t3, M3, rfl, b3, h⟩ := tkN_inr h
  obtain ⟨t4, M4, rfl, b4, h⟩ := tkN_inr h
  obtain ⟨rfl, e⟩ := tkE_inr h
  simp only [List.length_cons]
  exact ⟨by omega, b1.1, b1.2.1, b3.1, b3.2.1, fun q => b3.2.2 q.symm, b4.1, b4.2.1⟩
theorem bnd_ret {α : Type} {h : Rs α} : bnd h (fun r s => some (r, s)) = h := by
  cases h with
  | none => rfl
  | some v => rfl
/-- a line that is read, of the class: only the cursor has moved -/
def XI (σ s : St) (L : List Tk) (ls : List Ln) : Prop := GL L ∧ CT s L ∧ XL s ls ∧ Fr [145] σ s
def XN2 (σ : St) (r : Int) (s : St) (R : R2) (ls : List Ln) : Prop := match R with
  | .inl (k, L) => r = 0 ∧ Fr CX7 σ s ∧ s 139 7 = k ∧ CT s L ∧ GL L
  | .inr (l, M) => r = 1 ∧ Fr CX7 σ s ∧ K78 σ s ∧ CT s M ∧ GL M ∧ XL s (ls ++ [l])
theorem XI.bad {σ s : St} {L : List Tk} {ls : List Ln} {k : Int} (h : XI σ s L ls) : XN2 σ 0 (up s 139 7 k) (.inl (k, L)) ls :=
  ⟨rfl, (h.2.2.2.mono (by decide)).up (by decide), rfl, h.2.1.fr (S := [139]) (Fr.rf.up (by decide)) (by decide), h.1⟩
theorem xs_W {σ s : St} {L : List Tk} {ls : List Ln} {p : Int} {g : List Tk → R2} {K : St → Rs Int} (h : XI σ s L ls) (hp : p ≠ 256) (hK : ∀ s' M, XI σ s' M ls → Ok (K s') fun r s2 => XN2 σ r s2 (g M) ls) : Ok (bnd (fX5_take p s) fun r s1 => if r = 0 then some (0, s1) else K s1) fun r s2 => XN2 σ r s2 (tkW p L g) ls := by
  obtain ⟨t, M, rfl⟩ := h.1.cons
  rw [ko_bnd]
  show Ok _ fun r s1 => Ok _ fun r s2 => XN2 σ r s2 (if t.1 = p then g M else .inl (1, t :: M)) ls
  refine ok_mono (x_take h.1 h.2.1 hp) ?_
  rintro r s1 (⟨e, rfl, f1, c1, g1⟩ | ⟨e, rfl, rfl⟩)
  · rw [if_neg (by decide), if_pos e]
    exact hK s1 M ⟨g1, c1, h.2.2.1.fr f1 (by decide), h.2.2.2.tr f1⟩
  · rw [if_pos rfl, if_neg e]
    exact ok_ret h.bad
theorem xs_N {σ s : St} {L : List Tk} {ls : List Ln} {l h' x : Int} {g : Int → List Tk → R2} {K : Int → St → Rs Int} (h : XI σ s L ls) (hl : 0 ≤ l) (hK : ∀ v s' M, l ≤ v → v ≤ h' → XI σ s' M ls → Ok (K v s') fun r s2 => XN2 σ r s2 (g v M) ls) : Ok (bnd (fX5_takeNumber l h' x s) fun r s1 => if r = -1 then some (0, s1) else K r s1) fun r s2 => XN2 σ r s2 (tkN l h' x L g) ls := by
  obtain ⟨t, M, rfl⟩ := h.1.cons
  rw [ko_bnd]
  show Ok _ fun r s1 => Ok _ fun r s2 => XN2 σ r s2 (if nft t l h' x = 0 then g t.2.1 M else .inl (nft t l h' x, t :: M)) ls
  refine ok_mono (x_takeN h.1 h.2.1) ?_
  rintro r s1 (⟨e, rfl, f1, c1, g1⟩ | ⟨e, rfl, rfl⟩)
  · have b : l ≤ t.2.1 ∧ t.2.1 ≤ h' := by
      unfold nft at e
      by_cases k : t.1 = 257
      · rw [if_pos k] at e
        by_cases b : l ≤ t.2.1 ∧ t.2.1 ≤ h' ∧ t.2.1 ≠ x
        · exact ⟨b.1, b.2.1⟩
        · rw [if_neg b] at e; cases e
      · rw [if_neg k] at e; cases e
    rw [if_neg (by omega), if_pos e]
    exact hK t.2.1 s1 M b.1 b.2 ⟨g1, c1, h.2.2.1.fr f1 (by decide), h.2.2.2.tr f1⟩
  · rw [if_pos rfl, if_neg e]
    exact ok_ret h.bad
theorem xs_E {σ s : St} {L : List Tk} {ls : List Ln} {a b c d : Int} (h : XI σ s L ls) (hl : ls.length < 16) : Ok (bnd (fX5_take 59 s) fun r s1 => if r = 0 then some (0, s1) else bnd (fX6_add_ 140 141 64 a b c d 0 s1) fun r2 s2 => if r2 = -1 then some (0, s2) else some (1, s2)) fun r s2 => XN2 σ r s2 (tkE (a, b, c, d) L) ls := by
  unfold tkE
  refine xs_W (K := fun s1 => bnd (fX6_add_ 140 141 64 a b c d 0 s1) fun r2 s2 => if r2 = -1 then some (0, s2) else some (1, s2)) h (by decide) fun s1 M h1 => ?_
  obtain ⟨r, s5, e5, rn, f5, x5⟩ := x_addLine (a := a) (b := b) (c := c) (d := d) h1.2.2.1 hl
  rw [e5, bnd_some, if_neg rn]
  exact ok_ret (show XN2 σ 1 s5 (.inr ((a, b, c, d), M)) ls from ⟨rfl, (h1.2.2.2.mono (by decide)).tr (f5.mono (by decide)), (K78.fr h1.2.2.2 (by decide)).tr (K78.fr f5 (by decide)), h1.2.1.fr f5 (by decide), h1.1, x5⟩)
/-- how a line begins -/
def pG1 (p : Int) (line : List Tk → R2) (t : Tk) (M : List Tk) (ls : List Ln) : R2 := if t.1 ≠ p then .inl (1, t :: M) else if 16 ≤ ls.length then .inl (3, t :: M) else line M
theorem xs_B {σ : St} {t : Tk} {M : List Tk} {ls : List Ln} {p : Int} {line : List Tk → R2} {K : St → Rs Int} (g : GL (t :: M)) (ct : CT σ (t :: M)) (xl : XL σ ls) (hl : ls.length ≤ 16) (hp : p ≠ 256) (hK : ∀ s', XI σ s' M ls → ls.length < 16 → Ok (K s') fun r s2 => XN2 σ r s2 (line M) ls) : Ok (bnd (fX5_beginLine p σ) fun r s1 => if r = 0 then some (0, s1) else K s1) fun r s2 => XN2 σ r s2 (pG1 p line t M ls) ls := by
  rw [ko_bnd]
  unfold pG1
  refine ok_mono (x_begin g ct xl hl hp) ?_
  rintro r s1 (⟨e, f, rfl, f1, c1, g1⟩ | ⟨nf, rfl, rfl⟩)
  · rw [if_neg (by decide), if_neg (fun q => q e), if_neg (by omega)]
    exact hK s1 ⟨g1, c1, xl.fr f1 (by decide), f1⟩ f
  · rw [if_pos rfl]
    have h : XI σ σ (t :: M) ls := ⟨g, ct, xl, Fr.rf⟩
    by_cases e : t.1 = p
    · rw [if_pos e, if_neg (fun q => q e), if_pos (by omega)]
      exact ok_ret h.bad
    · rw [if_neg e, if_pos e]
      exact ok_ret h.bad
theorem x_takePerson {s : St} : fX5_takePerson s = fX5_takeNumber 0 (w32 (s 3 5 - 1)) (-1) s := by
  unfold fX5_takePerson
  rw [fld_eq, bnd_ret]
theorem x_takePorch {s : St} : fX5_takePorch s = fX5_takeNumber 0 (w32 (s 3 4 - 1)) (-1) s := by
  unfold fX5_takePorch
  rw [fld_eq, bnd_ret]
theorem x_takeMinute {s : St} : fX5_takeMinute s = fX5_takeNumber 0 59 (-1) s := by
  unfold fX5_takeMinute
  rw [bnd_ret]
def PQ (σ : St) (P Q : Int) : Prop := σ 3 5 = P ∧ σ 3 4 = Q ∧ 0 ≤ P ∧ P ≤ 20 ∧ 0 ≤ Q ∧ Q ≤ 12
theorem XI.p {σ s : St} {L : List Tk} {ls : List Ln} {P Q : Int} (h : XI σ s L ls) (q : PQ σ P Q) : w32 (s 3 5 - 1) = P - 1 ∧ w32 (s 3 4 - 1) = Q - 1 := by
  obtain ⟨a, b, c, d, e, f⟩ := q
  rw [h.2.2.2 3 (by decide), a, b, w32_sm (by omega), w32_sm (by omega)]
  exact ⟨rfl, rfl⟩
theorem x_call {σ : St} {t : Tk} {M : List Tk} {ls : List Ln} {P Q : Int} (q : PQ σ P Q) (g : GL (t :: M)) (ct : CT σ (t :: M)) (xl : XL σ ls) (hl : ls.length ≤ 16) : Ok (fX5_readCall σ) fun r s => XN2 σ r s (pG1 280 (pCall P Q) t M ls) ls := by
  unfold fX5_readCall
  refine xs_B g ct xl hl (by decide) fun s1 h1 lt => ?_
  rw [x_takePerson, (h1.p q).1]
  refine xs_N h1 (by decide) fun a s2 M2 _ _ h2 => ?_
  refine xs_W h2 (by decide) fun s3 M3 h3 => ?_
  rw [x_takeMinute]
  refine xs_N h3 (by decide) fun b s4 M4 _ _ h4 => ?_
  refine xs_W h4 (by decide) fun s5 M5 h5 => ?_
  rw [x_takePorch, (h5.p q).2]
  refine xs_N h5 (by decide) fun c s6 M6 _ _ h6 => ?_
  refine xs_W h6 (by decide) fun s7 M7 h7 => ?_
  refine xs_N h7 (by decide) fun d s8 M8 _ _ h8 => ?_
  exact xs_E h8 lt
theorem x_deed {σ : St} {t : Tk} {M : List Tk} {ls : List Ln} {P Q : Int} (q : PQ σ P Q) (g : GL (t :: M)) (ct : CT σ (t :: M)) (xl : XL σ ls) (hl : ls.length ≤ 16) : Ok (fX5_readEvening σ) fun r s => XN2 σ r s (pG1 284 (pDeed P Q) t M ls) ls := by
  unfold fX5_readEvening
  refine xs_B g ct xl hl (by decide) fun s1 h1 lt => ?_
  refine xs_N h1 (by decide) fun a s2 M2 _ _ h2 => ?_
  obtain ⟨u, M3, rfl⟩ := h2.1.cons
  rw [x_kind h2.2.1, bnd_some, x_within, bnd_some]
  show Ok _ fun r s => XN2 σ r s (if 285 ≤ u.1 ∧ u.1 ≤ 288 then tkN 0 (if u.1 = 287 then 59 else Q - 1) (-1) M3 fun c L =>
    if u.1 = 285 then tkN 0 99 (-1) L fun d L => tkE (a, u.1, c, d) L else if u.1 = 288 then tkN 0 (P - 1) (-1) L fun d L => tkE (a, u.1, c, d) L else tkE (a, u.1, c, 0) L else .inl (1, u :: M3)) ls
  by_cases k : 285 ≤ u.1 ∧ u.1 ≤ 288
  · rw [if_pos k, if_neg (by decide), if_pos k]
    obtain ⟨s3, e3, f3, c3⟩ := x_adv h2.2.1 (h2.1.tl (by omega))
    have h3 : XI σ s3 M3 ls := ⟨h2.1.tl (by omega), c3, h2.2.2.1.fr f3 (by decide), h2.2.2.2.tr f3⟩
    rw [e3, bnd_some, bnd_ret, bnd_ret, x_takeMinute, x_takePorch, (h3.p q).2]
    have e4 : (if u.1 = 287 then fX5_takeNumber 0 59 (-1) s3 else fX5_takeNumber 0 (Q - 1) (-1) s3) = fX5_takeNumber 0 (if u.1 = 287 then 59 else Q - 1) (-1) s3 := by split <;> rfl
    rw [e4]
    refine xs_N h3 (by decide) fun c s4 M4 _ _ h4 => ?_
    rw [bnd_ret]
    by_cases k5 : u.1 = 285
    · rw [if_pos k5, if_pos k5]
      simp only [if_neg (show ¬ u.1 = 288 by omega), bnd_some]
      exact xs_N h4 (by decide) fun d s5 M5 _ _ h5 => xs_E h5 lt
    · rw [if_neg k5, if_neg k5, bnd_some]
      by_cases k8 : u.1 = 288
      · rw [if_pos k8, if_pos k8, bnd_ret, x_takePerson, (h4.p q).1]
        exact xs_N h4 (by decide) fun d s5 M5 _ _ h5 => xs_E h5 lt
      · rw [if_neg k8, if_neg k8, bnd_some, if_neg (by decide)]
        exact xs_E h4 lt
  · rw [if_neg k, if_pos rfl, if_neg k, x_refuse, bnd_some]
    exact ok_ret h2.bad
theorem x_road {σ : St} {t : Tk} {M : List Tk} {ls : List Ln} {P Q : Int} (q : PQ σ P Q) (g : GL (t :: M)) (ct : CT σ (t :: M)) (xl : XL σ ls) (hl : ls.length ≤ 16) : Ok (fX5_readStreetLine σ) fun r s => XN2 σ r s (pG1 289 (pRoad Q) t M ls) ls := by
  unfold fX5_readStreetLine
  refine xs_B g ct xl hl (by decide) fun s1 h1 lt => ?_
  rw [x_takePorch, (h1.p q).2]
  refine xs_N h1 (by decide) fun a s2 M2 _ _ h2 => ?_
  refine xs_W h2 (by decide) fun s3 M3 h3 => ?_
  rw [fld_eq, (h3.p q).2]
  refine xs_N h3 (by decide) fun b s4 M4 _ _ h4 => ?_
  refine xs_N h4 (by decide) fun d s5 M5 _ _ h5 => ?_
  exact xs_E h5 lt
