/-! the pure part: what the functions answer, and that the two sides answer alike -/
theorem ko_stb {β : Type} {σ : St} {k n : Nat} {i v : Int} {g : St → Rs β} {P : β → St → Prop} : Ok (stb σ k n i v g) P ↔ (0 ≤ i ∧ i < n) ∧ Ok (g (up σ k i v)) P := by
  constructor
  · intro o; exact ok_gd o
  · rintro ⟨h, o⟩; unfold stb; rw [if_pos h]; exact o
theorem ko_loa {β : Type} {ids : List Nat} {i : Int} {g : Nat → Rs β} {P : β → St → Prop} : Ok (loa ids i g) P ↔ (0 ≤ i ∧ i < ids.length) ∧ Ok (g (ids.getD i.toNat 0)) P := by
  constructor
  · intro o; exact ok_gd o
  · rintro ⟨h, o⟩; unfold loa; rw [if_pos h]; exact o
theorem ko_cpy {β : Type} {σ : St} {k1 n1 k2 n2 : Nat} {sp dp n : Int} {g : St → Rs β} {P : β → St → Prop} : Ok (cpy σ k1 n1 sp k2 n2 dp n g) P ↔ (0 ≤ sp ∧ 0 ≤ dp ∧ 0 ≤ n ∧ sp + n ≤ n1 ∧ dp + n ≤ n2) ∧ Ok (g (cp σ k1 sp k2 dp n)) P := by
  constructor
  · intro o; exact ok_gd o
  · rintro ⟨h, o⟩; unfold cpy; rw [if_pos h]; exact o
theorem ko_jl {β γ : Type} {J : β → St → Prop} {K : γ → St → Prop} {x : β} {σ : St} : Jx J K (.inl x) σ ↔ J x σ := Iff.rfl
theorem ko_jr {β γ : Type} {J : β → St → Prop} {K : γ → St → Prop} {x : γ} {σ : St} : Jx J K (.inr x) σ ↔ K x σ := Iff.rfl
theorem ko_t {β : Type} {c : Prop} [Decidable c] {h1 h2 : Rs β} {P : β → St → Prop} (h : c) : Ok (if c then h1 else h2) P ↔ Ok h1 P := by rw [if_pos h]
theorem ko_f {β : Type} {c : Prop} [Decidable c] {h1 h2 : Rs β} {P : β → St → Prop} (h : ¬ c) : Ok (if c then h1 else h2) P ↔ Ok h2 P := by rw [if_neg h]
/-- a loop that goes n times -/
theorem for_ok0 {β γ : Type} {body : β → St → Rs (β ⊕ γ)} {P : γ → St → Prop} (n : Nat) (I : Nat → β → St → Prop)
    (hs : ∀ i x σ, i < n → I i x σ → Ok (body x σ) (Jx (I (i + 1)) P)) (he : ∀ x σ, I n x σ → Ok (body x σ) (Jx (fun _ _ => False) P)) :
    ∀ (d i N : Nat) (x : β) (σ : St), i + d = n → d < N → I i x σ → Ok (itr N body x σ) P := by
  intro d
  induction d with
  | zero =>
    intro i N x σ hi hN hI
    obtain ⟨N, rfl⟩ : ∃ M, N = M + 1 := ⟨N - 1, by omega⟩
    have hi : i = n := by omega
    subst hi
    obtain ⟨r, σ', e, hr⟩ := he x σ hI
    unfold itr
    rw [e]
    cases r with
    | inl x' => exact False.elim hr
    | inr y => exact ⟨y, σ', rfl, hr⟩
  | succ d ih =>
    intro i N x σ hi hN hI
    obtain ⟨N, rfl⟩ : ∃ M, N = M + 1 := ⟨N - 1, by omega⟩
    obtain ⟨r, σ', e, hr⟩ := hs i x σ (by omega) hI
    unfold itr
    rw [e]
    cases r with
    | inl x' => exact ih (i + 1) N x' σ' (by omega) (by omega) hr
    | inr y => exact ⟨y, σ', rfl, hr⟩
theorem for_ok {β γ : Type} {body : β → St → Rs (β ⊕ γ)} {P : γ → St → Prop} {x0 : β} {σ0 : St} (n : Nat) (I : Nat → β → St → Prop) (hn : n < 100000000) (h0 : I 0 x0 σ0)
    (hs : ∀ i x σ, i < n → I i x σ → Ok (body x σ) (Jx (I (i + 1)) P)) (he : ∀ x σ, I n x σ → Ok (body x σ) (Jx (fun _ _ => False) P)) : Ok (itr FUEL body x0 σ0) P :=
  for_ok0 n I hs he n 0 FUEL x0 σ0 (by omega) (by unfold FUEL; omega) h0
/-- two loops side by side -/
theorem for_ok20 {β γ β2 γ2 : Type} {b1 : β → St → Rs (β ⊕ γ)} {b2 : β2 → St → Rs (β2 ⊕ γ2)} {P : γ → St → γ2 → St → Prop} (n : Nat) (I : Nat → β → St → β2 → St → Prop)
    (hs : ∀ i x σ y τ, i < n → I i x σ y τ → Ok (b1 x σ) (Jx (fun x' σ' => Ok (b2 y τ) (Jx (fun y' τ' => I (i + 1) x' σ' y' τ') fun _ _ => False)) (fun r σ' => Ok (b2 y τ) (Jx (fun _ _ => False) fun r' τ' => P r σ' r' τ'))))
    (he : ∀ x σ y τ, I n x σ y τ → Ok (b1 x σ) (Jx (fun _ _ => False) fun r σ' => Ok (b2 y τ) (Jx (fun _ _ => False) fun r' τ' => P r σ' r' τ'))) :
    ∀ (d i N M : Nat) (x : β) (σ : St) (y : β2) (τ : St), i + d = n → d < N → d < M → I i x σ y τ → Ok (itr N b1 x σ) fun r σ' => Ok (itr M b2 y τ) fun r' τ' => P r σ' r' τ' := by
  intro d
  induction d with
  | zero =>
    intro i N M x σ y τ hi hN hM hI
    obtain ⟨N, rfl⟩ : ∃ K, N = K + 1 := ⟨N - 1, by omega⟩
    obtain ⟨M, rfl⟩ : ∃ K, M = K + 1 := ⟨M - 1, by omega⟩
    have hi : i = n := by omega
    subst hi
    obtain ⟨r, σ', e, hr⟩ := he x σ y τ hI
    unfold itr
    rw [e]
    cases r with
    | inl x' => exact False.elim hr
    | inr q =>
      obtain ⟨r2, τ', e2, hr2⟩ := hr
      refine ⟨q, σ', rfl, ?_⟩
      rw [e2]
      cases r2 with
      | inl x' => exact False.elim hr2
      | inr q2 => exact ⟨q2, τ', rfl, hr2⟩
  | succ d ih =>
    intro i N M x σ y τ hi hN hM hI
    obtain ⟨N, rfl⟩ : ∃ K, N = K + 1 := ⟨N - 1, by omega⟩
    obtain ⟨M, rfl⟩ : ∃ K, M = K + 1 := ⟨M - 1, by omega⟩
    obtain ⟨r, σ', e, hr⟩ := hs i x σ y τ (by omega) hI
    unfold itr
    rw [e]
    cases r with
    | inl x' =>
      obtain ⟨r2, τ', e2, hr2⟩ := hr
      simp only [e2]
      cases r2 with
      | inl y' => exact ih (i + 1) N M x' σ' y' τ' (by omega) (by omega) (by omega) hr2
      | inr q2 => exact False.elim hr2
    | inr q =>
      obtain ⟨r2, τ', e2, hr2⟩ := hr
      refine ⟨q, σ', rfl, ?_⟩
      rw [e2]
      cases r2 with
      | inl x' => exact False.elim hr2
      | inr q2 => exact ⟨q2, τ', rfl, hr2⟩
theorem for_ok2 {β γ β2 γ2 : Type} {b1 : β → St → Rs (β ⊕ γ)} {b2 : β2 → St → Rs (β2 ⊕ γ2)} {P : γ → St → γ2 → St → Prop} {x0 : β} {σ0 : St} {y0 : β2} {τ0 : St} (n : Nat) (I : Nat → β → St → β2 → St → Prop) (hn : n < 100000000) (h0 : I 0 x0 σ0 y0 τ0)
    (hs : ∀ i x σ y τ, i < n → I i x σ y τ → Ok (b1 x σ) (Jx (fun x' σ' => Ok (b2 y τ) (Jx (fun y' τ' => I (i + 1) x' σ' y' τ') fun _ _ => False)) (fun r σ' => Ok (b2 y τ) (Jx (fun _ _ => False) fun r' τ' => P r σ' r' τ'))))
    (he : ∀ x σ y τ, I n x σ y τ → Ok (b1 x σ) (Jx (fun _ _ => False) fun r σ' => Ok (b2 y τ) (Jx (fun _ _ => False) fun r' τ' => P r σ' r' τ'))) :
    Ok (itr FUEL b1 x0 σ0) fun r σ' => Ok (itr FUEL b2 y0 τ0) fun r' τ' => P r σ' r' τ' :=
  for_ok20 n I hs he n 0 FUEL FUEL x0 σ0 y0 τ0 (by omega) (by unfold FUEL; omega) (by unfold FUEL; omega) h0
/-- a loop with a measure -/
theorem while_ok {β γ : Type} {body : β → St → Rs (β ⊕ γ)} {P : γ → St → Prop} {x0 : β} {σ0 : St} (I : β → St → Prop) (μ : β → St → Nat) (h0 : I x0 σ0) (hm : μ x0 σ0 < 100000000)
    (hs : ∀ x σ, I x σ → Ok (body x σ) (Jx (fun x' σ' => I x' σ' ∧ μ x' σ' < μ x σ) P)) : Ok (itr FUEL body x0 σ0) P := by
  have key : ∀ (N : Nat) (x : β) (σ : St), I x σ → μ x σ < N → Ok (itr N body x σ) P := by
    intro N
    induction N with
    | zero => intro x σ _ h; omega
    | succ N ih =>
      intro x σ hI hm
      obtain ⟨r, σ', e, hr⟩ := hs x σ hI
      unfold itr
      rw [e]
      cases r with
      | inl x' =>
        obtain ⟨h1, h2⟩ := hr
        exact ih x' σ' h1 (by omega)
      | inr y => exact ⟨y, σ', rfl, hr⟩
  exact key FUEL x0 σ0 h0 (by unfold FUEL; omega)
/-- nothing but these cells has changed -/
def Fr (S : List Nat) (σ σ' : St) : Prop := ∀ k, k ∉ S → σ' k = σ k
theorem Fr.rf {S : List Nat} {σ : St} : Fr S σ σ := fun _ _ => rfl
theorem Fr.tr {S : List Nat} {σ σ1 σ2 : St} (h : Fr S σ σ1) (h2 : Fr S σ1 σ2) : Fr S σ σ2 := fun k hk => (h2 k hk).trans (h k hk)
theorem Fr.up {S : List Nat} {σ σ' : St} {k : Nat} {i v : Int} (h : Fr S σ σ') (hk : k ∈ S) : Fr S σ (up σ' k i v) := fun k' hk' => (up_ne (fun e : k' = k => hk' (by rw [e]; exact hk))).trans (h k' hk')
theorem Fr.mono {S T : List Nat} {σ σ' : St} (h : Fr S σ σ') (hs : ∀ k, k ∈ S → k ∈ T) : Fr T σ σ' := fun k hk => h k fun q => hk (hs k q)
theorem Fr.at {S : List Nat} {σ σ' : St} (h : Fr S σ σ') (k : Nat) (hk : k ∉ S := by decide) : σ' k = σ k := h k hk
theorem w32_nat {n : Nat} (h : n < 2147483647) : w32 ((n : Int) + 1) = ((n + 1 : Nat) : Int) := by rw [w32_sm (by omega)]; omega
theorem hasPorch_eq {p : Int} {σ : St} : fX2_hasPorch p σ = some (if 0 ≤ p ∧ p < σ 3 4 then 1 else 0, σ) := by
  unfold fX2_hasPorch
  simp only [fld_eq]
  by_cases h : p < 0
  · rw [if_pos h, if_neg (by omega)]
  · rw [if_neg h]
    by_cases h2 : p < σ 3 4
    · rw [if_pos h2, if_pos (by omega)]
    · rw [if_neg h2, if_neg (by omega)]
theorem hasPerson_eq {p : Int} {σ : St} : fX2_hasPerson p σ = some (if 0 ≤ p ∧ p < σ 3 5 then 1 else 0, σ) := by
  unfold fX2_hasPerson
  simp only [fld_eq]
  by_cases h : p < 0
  · rw [if_pos h, if_neg (by omega)]
  · rw [if_neg h]
    by_cases h2 : p < σ 3 5
    · rw [if_pos h2, if_pos (by omega)]
    · rw [if_neg h2, if_neg (by omega)]
theorem isPorch_eq {p : Int} {σ : St} : fX12_isPorch p σ = some (if 0 ≤ p ∧ p < σ 0 6 then 1 else 0, σ) := by
  unfold fX12_isPorch
  simp only [fld_eq]
  by_cases h : p < 0
  · rw [if_pos h, if_neg (by omega)]
  · rw [if_neg h]
    by_cases h2 : p < σ 0 6
    · rw [if_pos h2, if_pos (by omega)]
    · rw [if_neg h2, if_neg (by omega)]
theorem isPerson_eq {p : Int} {σ : St} : fX12_isPerson p σ = some (if 0 ≤ p ∧ p < σ 0 7 then 1 else 0, σ) := by
  unfold fX12_isPerson
  simp only [fld_eq]
  by_cases h : p < 0
  · rw [if_pos h, if_neg (by omega)]
  · rw [if_neg h]
    by_cases h2 : p < σ 0 7
    · rw [if_pos h2, if_pos (by omega)]
    · rw [if_neg h2, if_neg (by omega)]
theorem i01 {c : Prop} [Decidable c] : ((if c then (1 : Int) else 0) = 0) ↔ ¬ c := by by_cases h : c <;> simp [h]
theorem i10 {c : Prop} [Decidable c] : ((if c then (1 : Int) else 0) = 1) ↔ c := by by_cases h : c <;> simp [h]
theorem up_g {σ : St} {k k' : Nat} {i i' v : Int} : up σ k i v k' i' = if k' = k ∧ i' = i then v else σ k' i' := rfl
/-- a fact that omega shall not look at -/
def Hd (p : Prop) : Prop := p
theorem Hd.o {p : Prop} (h : Hd p) : p := h
theorem Hd.m {p : Prop} (h : p) : Hd p := h
