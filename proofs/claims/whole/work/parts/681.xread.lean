/-! TEXT: the class reads a text -/
abbrev CXR : List Nat := [139, 140, 141, 142, 143, 144, 145, 146, 147, 148]
def XRd (σ : St) (r : Int) (s : St) (R : (Int × List Tk) ⊕ (List Ln × Cd)) : Prop := Fr CXR σ s ∧ Wi s ∧ match R with
  | .inl (k, L) => r = 0 ∧ s 139 7 = k ∧ ∃ t M, L = t :: M ∧ s 139 8 = t.2.2
  | .inr (ls, a) => r = 1 ∧ s 139 7 = 0 ∧ s 139 8 = -1 ∧ XC s a ∧ XL s ls ∧ ls.length ≤ 16 ∧ a.length ≤ 400
def XRg (σ : St) (r : Int) (s : St) (R : (Int × List Tk) ⊕ List Ln) : Prop := Fr CXR σ s ∧ Wi s ∧ match R with
  | .inl (k, L) => r = 0 ∧ s 139 7 = k ∧ ∃ t M, L = t :: M ∧ s 139 8 = t.2.2
  | .inr ls => r = 1 ∧ s 139 7 = 0 ∧ s 139 8 = -1 ∧ XL s ls ∧ ls.length ≤ 16
theorem ok_kq {β : Type} {h : Rs β} {P : β → St → Prop} (k : Kq h) (o : Ok h P) : Ok h fun r s => P r s ∧ Wi s := by
  obtain ⟨x, s, e, p⟩ := o
  exact ⟨x, s, e, p, k x s e⟩
theorem x_start {C : Int → Int} {n : Int} {σ : St} {L : List Tk} (h : CX C n σ) (c : CC C n) (hL : TL C 0 L) (w : Wi σ) {K : St → Rs Int} {P : Int → St → Prop} (hK : ∀ s, Fr CXR σ s → Wi s → s 139 7 = 0 → s 139 8 = -1 → GL L → CT s L → XC s [] → XL s [] → Ok (K s) P) : Ok (put σ 139 7 0 fun s1 => put s1 139 8 (-1) fun s2 => bnd (fX6_clear 140 141 64 s2) fun r6 s7 => bnd (fX6_clear 142 143 400 s7) fun r9 s10 => bnd (fX8_scan s10) fun r12 s13 => K s13) P := by
  unfold fX6_clear
  rw [put_eq, put_eq, put_eq, bnd_some, put_eq, bnd_some, ko_bnd]
  have f0 : Fr [139, 140, 142] σ (up (up (up (up σ 139 7 0) 139 8 (-1)) 140 2 0) 142 2 0) := (((Fr.rf.up (by decide)).up (by decide)).up (by decide)).up (by decide)
  have a7 : (up (up (up (up σ 139 7 0) 139 8 (-1)) 140 2 0) 142 2 0) 139 7 = 0 := rfl
  have a8 : (up (up (up (up σ 139 7 0) 139 8 (-1)) 140 2 0) 142 2 0) 139 8 = -1 := rfl
  have b2 : (up (up (up (up σ 139 7 0) 139 8 (-1)) 140 2 0) 142 2 0) 140 2 = 0 := rfl
  have c2 : (up (up (up (up σ 139 7 0) 139 8 (-1)) 140 2 0) 142 2 0) 142 2 = 0 := rfl
  have w0 : Wi (up (up (up (up σ 139 7 0) 139 8 (-1)) 140 2 0) 142 2 0) := w
  generalize up (up (up (up σ 139 7 0) 139 8 (-1)) 140 2 0) 142 2 0 = s0 at *
  refine ok_mono (scan_ok (h.fr f0 (by decide)) c hL) ?_
  rintro _ s ⟨f1, ct⟩
  refine hK s ((f0.mono (by decide)).tr (f1.mono (by decide))) ?_ ?_ ?_ (hL.gl c (Int.le_refl _) c.1.1) ct ⟨?_, ?_, fun j p hj => by simp at hj⟩ ⟨?_, ?_, fun j p hj => by simp at hj⟩
  · unfold Wi
    rw [f1 140 (by decide), f1 142 (by decide)]
    exact w0
  · rw [f1 139 (by decide)]; exact a7
  · rw [f1 139 (by decide)]; exact a8
  · rw [f1 142 (by decide)]; exact w0.2
  · rw [f1 142 (by decide)]; exact c2
  · rw [f1 140 (by decide)]; exact w0.1
  · rw [f1 140 (by decide)]; exact b2
/-- the end: the place of the fault -/
theorem x_end0 {σ s0 s : St} {r : Int} {R : (Int × List Tk) ⊕ (List Ln × Cd)} (f0 : Fr CXR σ s0) (e7 : s0 139 7 = 0) (e8 : s0 139 8 = -1) (w : Wi s) (h : XLs s0 r s R) : Ok (if r = 0 then bnd (fX8_place s) fun r45 s46 => put s46 139 8 r45 fun s48 => some (r, s48) else some (r, s)) fun r s => XRd σ r s R := by
  match R, h with
  | .inl (k, L), ⟨hr0, f, k7, ct, g⟩ =>
    subst hr0
    obtain ⟨t, M, rfl⟩ := g.cons
    rw [if_pos rfl, x_place ct, bnd_some, put_eq]
    exact ok_ret ⟨(f0.tr (f.mono (by decide))).up (by decide), w, rfl, k7, t, M, rfl, rfl⟩
  | .inr (ls, a), ⟨hr0, f, k78, xc, xl, l16, a4⟩ =>
    subst hr0
    rw [if_neg (by decide)]
    exact ok_ret ⟨f0.tr (f.mono (by decide)), w, rfl, k78.1.trans e7, k78.2.trans e8, xc, xl, l16, a4⟩
theorem x_end1 {σ s0 s : St} {r : Int} {R : (Int × List Tk) ⊕ List Ln} (f0 : Fr CXR σ s0) (e7 : s0 139 7 = 0) (e8 : s0 139 8 = -1) (w : Wi s) (h : XGs s0 r s R) : Ok (if r = 0 then bnd (fX8_place s) fun r45 s46 => put s46 139 8 r45 fun s48 => some (r, s48) else some (r, s)) fun r s => XRg σ r s R := by
  match R, h with
  | .inl (k, L), ⟨hr0, f, k7, ct, g⟩ =>
    subst hr0
    obtain ⟨t, M, rfl⟩ := g.cons
    rw [if_pos rfl, x_place ct, bnd_some, put_eq]
    exact ok_ret ⟨(f0.tr (f.mono (by decide))).up (by decide), w, rfl, k7, t, M, rfl, rfl⟩
  | .inr ls, ⟨hr0, f, k78, xl, l16⟩ =>
    subst hr0
    rw [if_neg (by decide)]
    exact ok_ret ⟨f0.tr (f.mono (by decide)), w, rfl, k78.1.trans e7, k78.2.trans e8, xl, l16⟩
theorem x_len {C : Int → Int} {n : Int} {L : List Tk} (c : CC C n) (hL : TL C 0 L) : L.length ≤ 401 := by
  obtain ⟨L', h', l'⟩ := TL.ex c _ 0 (Nat.le_refl _) c.1.1
  have := c.1.2
  have e : ∀ (L L' : List Tk) (p : Int), TL C p L → TL C p L' → L.length = L'.length := by
    intro L
    induction L with
    | nil => intro _ _ h _; exact False.elim h
    | cons t L ih =>
      intro L' p h h'
      cases L' with
      | nil => exact False.elim h'
      | cons t' L' =>
        obtain ⟨z, z0, z1⟩ := h
        obtain ⟨y, y0, y1⟩ := h'
        obtain rfl := z0.uniq y0
        rcases z1 with ⟨_, _, _, rfl⟩ | ⟨q, e, e1, _, e3⟩ <;> rcases y1 with ⟨_, _, _, rfl⟩ | ⟨q', e', e1', _, e3'⟩
        · rfl
        · omega
        · omega
        · obtain rfl := e1.uniq e1'
          rw [List.length_cons, List.length_cons, ih L' _ e3 e3']
  rw [e L L' 0 hL h']
  omega
theorem kq_body {f : St → Rs Int} (hf : ∀ s, Wi s → Kq (f s)) {x : Int × Int} {s : St} (h : Wi s) : Kq (if 16 < x.2 then some ((.inr x.1 : (Int × Int) ⊕ Int), s) else if x.1 = 0 then some (.inr x.1, s) else bnd (fX8_kind s) fun r18 s19 => if r18 = 256 then some (.inr x.1, s19) else bnd (f s19) fun r21 s22 => some (.inl (r21, w32 (x.2 + 1)), s22)) :=
  kq_if (kq_ret h) (kq_if (kq_ret h) (kq_bnd (kq_X8_kind h) fun _ _ h1 => kq_if (kq_ret h1) (kq_bnd (hf _ h1) fun _ _ h2 => kq_ret h2)))
theorem x_read0 {C : Int → Int} {n : Int} {σ : St} {L : List Tk} (h : CX C n σ) (c : CC C n) (hL : TL C 0 L) (w : Wi σ) : Ok (fX5_read 0 σ) fun r s => XRd σ r s (pLs L.length L [] []) := by
  unfold fX5_read
  simp only [x_within, show ((0 : Int) ≤ 0 ∧ (0 : Int) ≤ 3) = True from eq_true (by decide), Int.reduceEq, eq_self_iff_true, if_true, if_false, bnd_some, bnd_ret]
  refine x_start h c hL w fun s f0 w0 e7 e8 g ct xc xl => ?_
  rw [ko_bnd]
  refine ok_mono (ok_kq (kq_itr w0 fun _ _ hs => kq_body (fun _ h => kq_X5_readLawLine h) hs) (x_lines g ct xc xl (by have := x_len c hL; simp only [List.length_nil]; omega))) ?_
  rintro r s1 ⟨h1, w1⟩
  exact x_end0 f0 e7 e8 w1 h1
theorem x_read1 {C : Int → Int} {n : Int} {σ : St} {L : List Tk} {P Q : Int} (h : CX C n σ) (c : CC C n) (hL : TL C 0 L) (w : Wi σ) (q : PQ σ P Q) : Ok (fX5_read 1 σ) fun r s => XRg σ r s (pGs 280 (pCall P Q) L.length L []) := by
  unfold fX5_read
  simp only [x_within, show ((0 : Int) ≤ 1 ∧ (1 : Int) ≤ 3) = True from eq_true (by decide), Int.reduceEq, eq_self_iff_true, if_true, if_false, bnd_some, bnd_ret]
  refine x_start h c hL w fun s f0 w0 e7 e8 g ct xc xl => ?_
  rw [ko_bnd]
  have q0 : PQ s P Q := by unfold PQ; rw [f0 3 (by decide)]; exact q
  refine ok_mono (ok_kq (kq_itr w0 fun _ _ hs => kq_body (fun _ h => kq_X5_readCall h) hs) (x_loop (p := 280) (line := pCall P Q) (f := fX5_readCall) (fun _ _ _ h => (pCall_in h).1) (fun s t M ls f g ct xl hl => x_call (by unfold PQ; rw [f 3 (by decide)]; exact q0) g ct xl hl) g ct xl (x_len c hL))) ?_
  rintro r s1 ⟨h1, w1⟩
  exact x_end1 f0 e7 e8 w1 h1
theorem x_read2 {C : Int → Int} {n : Int} {σ : St} {L : List Tk} {P Q : Int} (h : CX C n σ) (c : CC C n) (hL : TL C 0 L) (w : Wi σ) (q : PQ σ P Q) : Ok (fX5_read 2 σ) fun r s => XRg σ r s (pGs 284 (pDeed P Q) L.length L []) := by
  unfold fX5_read
  simp only [x_within, show ((0 : Int) ≤ 2 ∧ (2 : Int) ≤ 3) = True from eq_true (by decide), Int.reduceEq, eq_self_iff_true, if_true, if_false, bnd_some, bnd_ret]
  refine x_start h c hL w fun s f0 w0 e7 e8 g ct xc xl => ?_
  rw [ko_bnd]
  have q0 : PQ s P Q := by unfold PQ; rw [f0 3 (by decide)]; exact q
  refine ok_mono (ok_kq (kq_itr w0 fun _ _ hs => kq_body (fun _ h => kq_X5_readEvening h) hs) (x_loop (p := 284) (line := pDeed P Q) (f := fX5_readEvening) (fun _ _ _ h => (pDeed_in h).1) (fun s t M ls f g ct xl hl => x_deed (by unfold PQ; rw [f 3 (by decide)]; exact q0) g ct xl hl) g ct xl (x_len c hL))) ?_
  rintro r s1 ⟨h1, w1⟩
  exact x_end1 f0 e7 e8 w1 h1
theorem x_read3 {C : Int → Int} {n : Int} {σ : St} {L : List Tk} {P Q : Int} (h : CX C n σ) (c : CC C n) (hL : TL C 0 L) (w : Wi σ) (q : PQ σ P Q) : Ok (fX5_read 3 σ) fun r s => XRg σ r s (pGs 289 (pRoad Q) L.length L []) := by
  unfold fX5_read
  simp only [x_within, show ((0 : Int) ≤ 3 ∧ (3 : Int) ≤ 3) = True from eq_true (by decide), Int.reduceEq, eq_self_iff_true, if_true, if_false, bnd_some, bnd_ret]
  refine x_start h c hL w fun s f0 w0 e7 e8 g ct xc xl => ?_
  rw [ko_bnd]
  have q0 : PQ s P Q := by unfold PQ; rw [f0 3 (by decide)]; exact q
  refine ok_mono (ok_kq (kq_itr w0 fun _ _ hs => kq_body (fun _ h => kq_X5_readStreetLine h) hs) (x_loop (p := 289) (line := pRoad Q) (f := fX5_readStreetLine) (fun _ _ _ h => (pRoad_in h).1) (fun s t M ls f g ct xl hl => x_road (P := P) (by unfold PQ; rw [f 3 (by decide)]; exact q0) g ct xl hl) g ct xl (x_len c hL))) ?_
  rintro r s1 ⟨h1, w1⟩
  exact x_end1 f0 e7 e8 w1 h1
