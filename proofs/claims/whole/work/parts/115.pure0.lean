/-! runs of the functions -/
theorem ko_some {β : Type} {x : β} {σ : St} {P : β → St → Prop} : Ok (some (x, σ)) P ↔ P x σ := ⟨ok_some, fun h => ⟨x, σ, rfl, h⟩⟩
theorem ko_none {β : Type} {P : β → St → Prop} : Ok (none : Rs β) P ↔ False := ⟨fun o => ok_none o, fun h => False.elim h⟩
theorem ko_if {β : Type} {c : Prop} [Decidable c] {h1 h2 : Rs β} {P : β → St → Prop} : Ok (if c then h1 else h2) P ↔ (c → Ok h1 P) ∧ (¬ c → Ok h2 P) := by
  by_cases h : c <;> simp [h]
theorem ko_bnd {β γ : Type} {h : Rs β} {k : β → St → Rs γ} {P : γ → St → Prop} : Ok (bnd h k) P ↔ Ok h (fun x σ => Ok (k x σ) P) := by
  constructor
  · intro o
    obtain ⟨x, σ, e, o⟩ := ok_bnd o
    exact ⟨x, σ, e, o⟩
  · rintro ⟨x, σ, rfl, o⟩
    exact o
theorem ko_bnx {β γ : Type} {h : Rs (β ⊕ γ)} {k : β → St → Rs γ} {P : γ → St → Prop} : Ok (bnx h k) P ↔ Ok h (Jx (fun x σ => Ok (k x σ) P) P) := by
  constructor
  · rintro ⟨y, σ', e, hP⟩
    unfold bnx at e
    split at e
    · cases e
    · next x σ => exact ⟨.inl x, σ, rfl, y, σ', e, hP⟩
    · next y2 σ => cases e; exact ⟨.inr y, σ', rfl, hP⟩
  · rintro ⟨x, σ, rfl, o⟩
    cases x with
    | inl x => exact o
    | inr y => exact ⟨y, σ, rfl, o⟩
theorem ko_lod {β : Type} {σ : St} {k n : Nat} {i : Int} {g : Int → Rs β} {P : β → St → Prop} : Ok (lod σ k n i g) P ↔ (0 ≤ i ∧ i < n) ∧ Ok (g (σ k i)) P := by
  constructor
  · intro o; exact ok_gd o
  · rintro ⟨h, o⟩; unfold lod; rw [if_pos h]; exact o
theorem ko_sto {β : Type} {σ : St} {k n : Nat} {i v : Int} {g : St → Rs β} {P : β → St → Prop} : Ok (sto σ k n i v g) P ↔ (0 ≤ i ∧ i < n) ∧ Ok (g (up σ k i v)) P := by
  constructor
  · intro o; exact ok_gd o
  · rintro ⟨h, o⟩; unfold sto; rw [if_pos h]; exact o
theorem ko_fld {β : Type} {σ : St} {k : Nat} {j : Int} {g : Int → Rs β} {P : β → St → Prop} : Ok (fld σ k j g) P ↔ Ok (g (σ k j)) P := Iff.rfl
theorem ko_put {β : Type} {σ : St} {k : Nat} {j v : Int} {g : St → Rs β} {P : β → St → Prop} : Ok (put σ k j v g) P ↔ Ok (g (up σ k j v)) P := Iff.rfl
theorem ko_lb {β : Type} {v : Int} {g : Int → Rs β} {P : β → St → Prop} : Ok (lb v g) P ↔ Ok (g v) P := Iff.rfl
theorem ko_dvc {β : Type} {b : Int} {g : Rs β} {P : β → St → Prop} : Ok (dvc b g) P ↔ b ≠ 0 ∧ Ok g P := by
  unfold dvc
  rw [ko_if, ko_none]
  constructor
  · rintro ⟨h1, h2⟩
    exact ⟨h1, h2 h1⟩
  · rintro ⟨h, o⟩; exact ⟨h, fun _ => o⟩
theorem ko_itr {β γ : Type} {body : β → St → Rs (β ⊕ γ)} {P : γ → St → Prop} (I : β → St → Prop) (μ : β → Nat) (hs : ∀ x σ, I x σ → Ok (body x σ) (Jx (fun x' σ' => I x' σ' ∧ μ x' < μ x) P)) : ∀ (N : Nat) (x : β) (σ : St), I x σ → μ x < N → Ok (itr N body x σ) P := by
  intro N
  induction N with
  | zero => intro x σ _ h; omega
  | succ N ih =>
    intro x σ hI hm
    obtain ⟨r, σ', e, hr⟩ := hs x σ hI
    unfold itr
    rw [e]
    cases r with
    | inl x' =>
      obtain ⟨h1, h2⟩ := hr
      exact ih x' σ' h1 (by omega)
    | inr y => exact ⟨y, σ', rfl, hr⟩
theorem ok_mono {β : Type} {h : Rs β} {P Q : β → St → Prop} (o : Ok h P) (hq : ∀ x σ, P x σ → Q x σ) : Ok h Q := by
  obtain ⟨x, σ, e, k⟩ := o
  exact ⟨x, σ, e, hq x σ k⟩
theorem ok_eq {β : Type} {h : Rs β} {a : β} {b : St} (o : Ok h (fun x σ => x = a ∧ σ = b)) : h = some (a, b) := by
  obtain ⟨x, σ, e, rfl, rfl⟩ := o
  exact e
theorem ok_of_eq {β : Type} {h : Rs β} {a : β} {b : St} {P : β → St → Prop} (e : h = some (a, b)) (hP : P a b) : Ok h P := ⟨a, b, e, hP⟩
theorem fld_eq {β : Type} {σ : St} {k : Nat} {j : Int} {g : Int → Rs β} : fld σ k j g = g (σ k j) := rfl
theorem put_eq {β : Type} {σ : St} {k : Nat} {j v : Int} {g : St → Rs β} : put σ k j v g = g (up σ k j v) := rfl
theorem lb_eq {β : Type} {v : Int} {g : Int → Rs β} : lb v g = g v := rfl
theorem lod_eq {β : Type} {σ : St} {k n : Nat} {i : Int} {g : Int → Rs β} (h : 0 ≤ i ∧ i < n) : lod σ k n i g = g (σ k i) := if_pos h
theorem sto_eq {β : Type} {σ : St} {k n : Nat} {i v : Int} {g : St → Rs β} (h : 0 ≤ i ∧ i < n) : sto σ k n i v g = g (up σ k i v) := if_pos h
theorem dvc_eq {β : Type} {b : Int} {g : Rs β} (h : b ≠ 0) : dvc b g = g := if_neg h
theorem bnd_some {β γ : Type} {x : β} {σ : St} {k : β → St → Rs γ} : bnd (some (x, σ)) k = k x σ := rfl
theorem bnx_inl {β γ : Type} {x : β} {σ : St} {k : β → St → Rs γ} : bnx (some (Sum.inl x, σ)) k = k x σ := rfl
theorem bnx_inr {β γ : Type} {y : γ} {σ : St} {k : β → St → Rs γ} : bnx (some (Sum.inr y, σ)) k = some (y, σ) := rfl
theorem w32_sm {x : Int} (h : -2147483648 ≤ x ∧ x ≤ 2147483647) : w32 x = x := w32_id h
theorem within_eq {a l h : Int} {σ : St} : fX11_within a l h σ = some (if l ≤ a ∧ a ≤ h then 1 else 0, σ) := by
  unfold fX11_within
  split
  · rw [if_neg (by omega)]
  · split
    · rw [if_neg (by omega)]
    · rw [if_pos (by omega)]
theorem isIn_eq {a l h : Int} {σ : St} : fX12_isIn a l h σ = some (if l ≤ a ∧ a ≤ h then 1 else 0, σ) := within_eq
/-! rows -/
theorem cst {β : Type} {c : Prop} [Decidable c] {σ : St} {k n : Nat} {i v : Int} {f : Unit → St → Rs β} (h : c → 0 ≤ i ∧ i < n) : bnd (if c then sto σ k n i v (fun s => some ((), s)) else some ((), σ)) f = f () (if c then up σ k i v else σ) := by
  by_cases hc : c
  · simp only [if_pos hc, sto_eq (h hc)]; rfl
  · simp only [if_neg hc]; rfl
def cup (c : Prop) [Decidable c] (σ : St) (k : Nat) (i v : Int) : St := if c then up σ k i v else σ
theorem cup_t {c : Prop} [Decidable c] {σ : St} {k : Nat} {i v : Int} (h : c) : cup c σ k i v = up σ k i v := if_pos h
theorem cup_f {c : Prop} [Decidable c] {σ : St} {k : Nat} {i v : Int} (h : ¬ c) : cup c σ k i v = σ := if_neg h
theorem cup_ne {c : Prop} [Decidable c] {σ : St} {k k' : Nat} {i v : Int} (h : k' ≠ k) : cup c σ k i v k' = σ k' := by
  unfold cup
  split
  · exact up_ne h
  · rfl
def rput (w : Int) (σ : St) (rc : Nat) (s a b c d e : Int) : St := cup (4 < w) (cup (3 < w) (cup (2 < w) (cup (1 < w) (cup (0 < w) σ rc s a) rc (s + 1) b) rc (s + 2) c) rc (s + 3) d) rc (s + 4) e
theorem row_change {ro rc rn : Nat} {σ : St} {w p a b c d e : Int} (hne : rc ≠ ro) (h0 : σ ro 0 = w) (hp : 0 ≤ p ∧ p < σ ro 2) (hw : 1 ≤ w ∧ w ≤ 5) (hn : p * w + w ≤ rn) (hp2 : 0 ≤ p * w) (hr : rn ≤ 60000) : fX6_change ro rc rn p a b c d e σ = some (0, rput w σ rc (p * w) a b c d e) := by
  have hne' : ro ≠ rc := fun q => hne q.symm
  have e1 : w32 (p * w) = p * w := w32_sm (by omega)
  have e2 : w32 (p * w + 1) = p * w + 1 := w32_sm (by omega)
  have e3 : w32 (p * w + 2) = p * w + 2 := w32_sm (by omega)
  have e4 : w32 (p * w + 3) = p * w + 3 := w32_sm (by omega)
  have e5 : w32 (p * w + 4) = p * w + 4 := w32_sm (by omega)
  unfold fX6_change
  rw [if_neg (by omega), fld_eq, if_pos hp.2]
  simp only [fld_eq, lb_eq, h0, e1]
  rw [cst (by omega), ← cup, cup_ne hne', h0]
  rw [cst (by rw [e2]; omega), ← cup, cup_ne hne', cup_ne hne', h0]
  rw [cst (by rw [e3]; omega), ← cup, cup_ne hne', cup_ne hne', cup_ne hne', h0]
  rw [cst (by rw [e4]; omega), ← cup, cup_ne hne', cup_ne hne', cup_ne hne', cup_ne hne', h0]
  rw [e2, e3, e4, e5]
  unfold rput
  by_cases h : 4 < w
  · rw [if_pos h, sto_eq (by omega), cup_t h]
  · rw [if_neg h, cup_f h]
theorem row_add {ro rc rn : Nat} {σ : St} {w a b c d e : Int} (hne : rc ≠ ro) (h0 : σ ro 0 = w) (h2 : 0 ≤ σ ro 2) (hw : 1 ≤ w ∧ w ≤ 5) (hs : 0 ≤ σ ro 2 * w) (hn : σ ro 2 * w ≤ rn) (hr : rn ≤ 60000) (hl : σ ro 2 ≤ 60000) : fX6_add_ ro rc rn a b c d e σ = if rn < σ ro 2 * w + w then some (-1, σ) else some (σ ro 2 + 1, rput w (up σ ro 2 (σ ro 2 + 1)) rc (σ ro 2 * w) a b c d e) := by
  have hne' : ro ≠ rc := fun q => hne q.symm
  have e1 : w32 (σ ro 2 + 1) = σ ro 2 + 1 := w32_sm (by omega)
  have e0 : (σ ro 2 + 1) * w = σ ro 2 * w + w := by rw [Int.add_mul, Int.one_mul]
  have e2 : w32 (σ ro 2 * w + w) = σ ro 2 * w + w := w32_sm (by omega)
  have e3 : w32 (σ ro 2 + 1 - 1) = σ ro 2 := by rw [show σ ro 2 + 1 - 1 = σ ro 2 by omega]; exact w32_sm (by omega)
  unfold fX6_add_ fX6_isFull
  simp only [fld_eq, h0, e1, e0, e2]
  by_cases hf : (rn : Int) < σ ro 2 * w + w
  · rw [if_pos hf, if_pos hf]
    rfl
  · rw [if_neg hf, if_neg hf, bnd_some, if_pos rfl]
    simp only [fld_eq, put_eq, e1]
    have hu : up σ ro 2 (σ ro 2 + 1) ro 2 = σ ro 2 + 1 := by rw [up_at, if_pos rfl]
    have hu0 : up σ ro 2 (σ ro 2 + 1) ro 0 = w := by rw [up_at, if_neg (by decide), h0]
    rw [hu, e3, row_change hne hu0 (by rw [hu]; omega) hw (by omega) hs hr, bnd_some]
    have h2' : rput w (up σ ro 2 (σ ro 2 + 1)) rc (σ ro 2 * w) a b c d e ro 2 = σ ro 2 + 1 := by
      unfold rput
      rw [cup_ne hne', cup_ne hne', cup_ne hne', cup_ne hne', cup_ne hne', hu]
    rw [h2']
theorem row_add1 {ro rc rn : Nat} {σ : St} {a : Int} (hne : rc ≠ ro) (h0 : σ ro 0 = 1) (h2 : 0 ≤ σ ro 2) (hl : σ ro 2 ≤ 60000) : fX6_add ro rc rn a σ = if σ ro 2 < rn then some (σ ro 2 + 1, up (up σ rc (σ ro 2) a) ro 2 (σ ro 2 + 1)) else some (-1, σ) := by
  have hne' : ro ≠ rc := fun q => hne q.symm
  have e1 : w32 (σ ro 2 + 1) = σ ro 2 + 1 := w32_sm (by omega)
  unfold fX6_add
  simp only [fld_eq, put_eq]
  rw [if_pos h0]
  by_cases hf : σ ro 2 < rn
  · rw [if_pos hf, if_pos hf, sto_eq (by omega), up_ne hne', e1, up_at, if_pos rfl]
  · rw [if_neg hf, if_neg hf]
theorem row_size {ro rc rn : Nat} {σ : St} : fX6_size ro rc rn σ = some (σ ro 2, σ) := rfl
theorem row_clear {ro rc rn : Nat} {σ : St} : fX6_clear ro rc rn σ = some (0, up σ ro 2 0) := rfl
theorem row_get {ro rc rn : Nat} {σ : St} {w l c : Int} (h0 : σ ro 0 = w) (hw : 1 ≤ w ∧ w ≤ 5) (h : 0 ≤ l → l < σ ro 2 → 0 ≤ l * w ∧ l * w + w ≤ rn) (hr : rn ≤ 60000) : fX6_get ro rc rn l c σ = some (if (0 ≤ l ∧ l < σ ro 2) ∧ 0 ≤ c ∧ c < w then σ rc (l * w + c) else -1, σ) := by
  unfold fX6_get
  simp only [fld_eq, h0]
  by_cases h1 : l < 0
  · rw [if_pos h1, if_neg (by omega)]
  · rw [if_neg h1]
    by_cases h2 : l < σ ro 2
    · rw [if_pos h2]
      by_cases h3 : c < 0
      · rw [if_pos h3, if_neg (by omega)]
      · rw [if_neg h3]
        by_cases h4 : c < w
        · have h5 := h (by omega) h2
          rw [if_pos h4, if_pos (by omega), w32_sm (x := l * w) (by omega), w32_sm (by omega), lod_eq (by omega)]
        · rw [if_neg h4, if_neg (by omega)]
    · rw [if_neg h2, if_neg (by omega)]
